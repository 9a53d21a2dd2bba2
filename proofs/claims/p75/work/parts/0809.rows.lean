set_option maxRecDepth 100000 in
set_option maxHeartbeats 4000000 in
theorem m_X9_begins {l : Launch} {D : va_G} {h : Nat → Nat} {cz : Nat → ClassId} {z : EZ} {i : Nat → Nat → Int32} {g : Nat → Nat → Int64} (hR : Rg rA i) : DtV l yX9_begins cX9_begins 1 none ({ frames := 2, cells := 0, slots := 0, locals := 44 } : Room) D h cz z i g [.ref (h 96)] (fun u => Rg rA u.1 ∧ Fr [96] [96] i g u ∧ ((u.1 96 7).toInt ≤ (u.1 96 6).toInt)) := by
  refine e_V pn_X9_begins (Nat.le_of_ble_eq_true rfl) ?_
  intro p e s m args below meth c ls Q X Y hret hT hl hS
  have hx := X.1
  have hb := X.2.1
  have hl : lv_has ls 1 [(0, .ref (h 96))] := hl
  have hF : Fr [96] [96] i g (i, g) := Fr_rf _ _ _ _
  refine lv_aload_n hx hb dX9_begins_0 rfl (lv_at hl 0 rfl) ?_
  refine lv_iconst (v := 0) hx hb dX9_begins_1 (by decide) ?_
  refine r_puti X hT hS 96 12 pk_9_135 rfl rfl rfl rfl (by decide) dX9_begins_2 (fun H locs i1 ei1 hT hS => ?_)
  have hR1 := Rg_put hR ei1 0 3 rfl (rg_k (by decide) : rg 0 0 0) (by decide)
  have hF1 := Fr_puti hF ei1 (by decide)
  refine lv_aload_n hx hb dX9_begins_5 rfl (lv_at hl 0 rfl) ?_
  refine lv_iconst (v := (-1)) hx hb dX9_begins_6 (by decide) ?_
  refine r_puti X hT hS 96 13 pk_9_138 rfl rfl rfl rfl (by decide) dX9_begins_7 (fun H locs i2 ei2 hT hS => ?_)
  have hR2 := Rg_put hR1 ei2 (-2147483648) 2147483647 rfl (rg_k (by decide) : rg (-1) (-1) (-1)) (by decide)
  have hF2 := Fr_puti hF1 ei2 (by decide)
  refine lv_aload_n hx hb dX9_begins_10 rfl (lv_at hl 0 rfl) ?_
  refine lv_iconst (v := 0) hx hb dX9_begins_11 (by decide) ?_
  refine r_puti X hT hS 96 7 pk_9_107 rfl rfl rfl rfl (by decide) dX9_begins_12 (fun H locs i3 ei3 hT hS => ?_)
  have hR3 := Rg_put hR2 ei3 0 700 rfl (rg_k (by decide) : rg 0 0 0) (by decide)
  have hF3 := Fr_puti hF2 ei3 (by decide)
  refine lv_aload_n hx hb dX9_begins_15 rfl (lv_at hl 0 rfl) ?_
  have e4 : (i3 96 7) = 0 := (z_s ei3)
  have h5 : rg 0 0 (i3 96 7) := rg_of e4 (rg_k (by decide) : rg 0 0 0)
  have hP6 : (i3 96 7).toInt ≤ (i3 96 6).toInt := by have := h5.2; have := (Rg_at hR3 96 6 0 700 (by decide) rfl).1; omega
  refine e_Vv (As := []) (rest := []) X Y hT hS (m_X9_follows hR3 hP6) mk_X9_follows gm_1542 rfl rfl (by decide) hd_X9_follows ⟨rfl, rfl⟩ ⟨Nat.le_of_ble_eq_true rfl, Nat.le_of_ble_eq_true rfl⟩ hl.1 rfl (Nat.le_of_ble_eq_true rfl) dX9_begins_16 ⟨Nat.zero_le _, Nat.zero_le _⟩ (fun i7 g7 H locs hq hT hS => ?_)
  obtain ⟨hR7, hf7, hp7_0, hf7_0, hf7_1⟩ := hq
  have hF7 := Fr_tr hF3 hf7 (by decide)
  replace hp7_0 : (i7 96 7).toInt ≤ (i7 96 6).toInt := hp7_0
  have e8 : (i3 96 12) = 0 := (z_k ei3 (z_k ei2 (z_s ei1) (by decide)) (by decide))
  have h9 : rg 0 0 (i3 96 12) := rg_of e8 (rg_k (by decide) : rg 0 0 0)
  exact hret _ _ _ _ _ _ dX9_begins_19 hT hS ⟨hR7, hF7, hp7_0⟩
set_option maxRecDepth 100000 in
set_option maxHeartbeats 4000000 in
theorem m_X9_isGood {l : Launch} {D : va_G} {h : Nat → Nat} {cz : Nat → ClassId} {z : EZ} {i : Nat → Nat → Int32} {g : Nat → Nat → Int64} (hR : Rg rA i) : DtI l yX9_isGood cX9_isGood 1 (some .boolean) ({ frames := 0, cells := 0, slots := 0, locals := 0 } : Room) D h cz z i g [.ref (h 96)] (fun r u => (u = (i, g) ∧ r = 1 ∧ rg 0 0 (i 96 12)) ∨ (u = (i, g) ∧ r = 0 ∧ rg 1 3 (i 96 12))) := by
  refine e_Z (fun v u hq => (hq.elim (fun hq => (Or.inr hq.2.1)) (fun hq => (Or.inl hq.2.1)))) pn_X9_isGood (Nat.le_of_ble_eq_true rfl) ?_
  intro p e s m args below meth c ls Q X Y hret hT hl hS
  have hx := X.1
  have hb := X.2.1
  have hl : lv_has ls 1 [(0, .ref (h 96))] := hl
  refine lv_aload_n hx hb dX9_isGood_0 rfl (lv_at hl 0 rfl) ?_
  refine r_geti X hT 96 12 fk_9_135 rfl rfl (by decide) dX9_isGood_1 ?_
  refine lv_if_ne (tgt := 11) hx hb dX9_isGood_4 (by decide) (fun c1 => ?_) (fun c1 => ?_)
  ·
    have q1 : ¬ (i 96 12).toInt = 0 := i_ne c1
    have h2 : rg 1 3 (i 96 12) := t_nelo 1 (Rg_at hR 96 12 0 3 (by decide) rfl) (rg_k (by decide) : rg 0 0 0) (i_ne c1) (by decide)
    refine lv_iconst (v := 0) hx hb dX9_isGood_11 (by decide) ?_
    exact hret 0 _ _ _ _ _ _ dX9_isGood_12 hT hS (Or.inr ⟨rfl, rfl, h2⟩)
  ·
    have q1 : (i 96 12).toInt = 0 := i_eq c1
    have h3 : rg 0 0 (i 96 12) := t_eqx 0 0 (Rg_at hR 96 12 0 3 (by decide) rfl) (rg_k (by decide) : rg 0 0 0) (i_eq c1) (by decide)
    refine lv_iconst (v := 1) hx hb dX9_isGood_7 (by decide) ?_
    refine lv_goto (tgt := 12) hx hb dX9_isGood_8 (by decide) ?_
    exact hret 1 _ _ _ _ _ _ dX9_isGood_12 hT hS (Or.inl ⟨rfl, rfl, h3⟩)
set_option maxRecDepth 100000 in
set_option maxHeartbeats 4000000 in
theorem m_X9_isOver {l : Launch} {D : va_G} {h : Nat → Nat} {cz : Nat → ClassId} {z : EZ} {i : Nat → Nat → Int32} {g : Nat → Nat → Int64} (hR : Rg rA i) : DtV l yX9_isOver cX9_isOver 1 none ({ frames := 0, cells := 0, slots := 0, locals := 0 } : Room) D h cz z i g [.ref (h 96)] (fun u => Rg rA u.1 ∧ Fr [96] [] i g u) := by
  refine e_V pn_X9_isOver (Nat.le_of_ble_eq_true rfl) ?_
  intro p e s m args below meth c ls Q X Y hret hT hl hS
  have hx := X.1
  have hb := X.2.1
  have hl : lv_has ls 1 [(0, .ref (h 96))] := hl
  have hF : Fr [96] [] i g (i, g) := Fr_rf _ _ _ _
  refine lv_aload_n hx hb dX9_isOver_0 rfl (lv_at hl 0 rfl) ?_
  refine lv_iconst (v := 0) hx hb dX9_isOver_1 (by decide) ?_
  refine r_puti X hT hS 96 6 pk_9_100 rfl rfl rfl rfl (by decide) dX9_isOver_2 (fun H locs i1 ei1 hT hS => ?_)
  have hR1 := Rg_put hR ei1 0 700 rfl (rg_k (by decide) : rg 0 0 0) (by decide)
  have hF1 := Fr_puti hF ei1 (by decide)
  refine lv_aload_n hx hb dX9_isOver_5 rfl (lv_at hl 0 rfl) ?_
  refine lv_aload_n hx hb dX9_isOver_6 rfl (lv_at hl 0 rfl) ?_
  refine r_geti X hT 96 12 fk_9_135 rfl rfl (by decide) dX9_isOver_7 ?_
  refine r_puti X hT hS 96 14 pk_9_162 rfl rfl rfl rfl (by decide) dX9_isOver_10 (fun H locs i2 ei2 hT hS => ?_)
  have hR2 := Rg_put hR1 ei2 (-2147483648) 2147483647 rfl (Rg_at hR1 96 12 0 3 (by decide) rfl) (by decide)
  have hF2 := Fr_puti hF1 ei2 (by decide)
  refine lv_aload_n hx hb dX9_isOver_13 rfl (lv_at hl 0 rfl) ?_
  refine lv_aload_n hx hb dX9_isOver_14 rfl (lv_at hl 0 rfl) ?_
  refine r_geti X hT 96 12 fk_9_135 rfl rfl (by decide) dX9_isOver_15 ?_
  have e3 : (i2 96 12) = (i1 96 12) := (z_k ei2 rfl (by decide))
  have h4 : rg 0 3 (i2 96 12) := rg_of e3 (Rg_at hR1 96 12 0 3 (by decide) rfl)
  refine lv_if_ne (tgt := 25) hx hb dX9_isOver_18 (by decide) (fun c5 => ?_) (fun c5 => ?_)
  ·
    have q5 : ¬ (i2 96 12).toInt = 0 := i_ne c5
    have h6 : rg 1 3 (i2 96 12) := t_nelo 1 h4 (rg_k (by decide) : rg 0 0 0) (i_ne c5) (by decide)
    have h7 : rg 1 3 (i1 96 12) := rg_fo e3 h6
    refine lv_aload_n hx hb dX9_isOver_25 rfl (lv_at hl 0 rfl) ?_
    refine r_geti X hT 96 13 fk_9_138 rfl rfl (by decide) dX9_isOver_26 ?_
    refine r_puti X hT hS 96 15 pk_9_27 rfl rfl rfl rfl (by decide) dX9_isOver_29 (fun H locs i8 ei8 hT hS => ?_)
    have hR8 := Rg_put hR2 ei8 (-2147483648) 2147483647 rfl (rg_top (i2 96 13)) (by decide)
    have hF8 := Fr_puti hF2 ei8 (by decide)
    exact hret _ _ _ _ _ _ dX9_isOver_32 hT hS ⟨hR8, hF8⟩
  ·
    have q5 : (i2 96 12).toInt = 0 := i_eq c5
    have h9 : rg 0 0 (i2 96 12) := t_eqx 0 0 h4 (rg_k (by decide) : rg 0 0 0) (i_eq c5) (by decide)
    have h10 : rg 0 0 (i1 96 12) := rg_fo e3 h9
    refine lv_iconst (v := (-1)) hx hb dX9_isOver_21 (by decide) ?_
    refine lv_goto (tgt := 29) hx hb dX9_isOver_22 (by decide) ?_
    refine r_puti X hT hS 96 15 pk_9_27 rfl rfl rfl rfl (by decide) dX9_isOver_29 (fun H locs i11 ei11 hT hS => ?_)
    have hR11 := Rg_put hR2 ei11 (-2147483648) 2147483647 rfl (rg_k (by decide) : rg (-1) (-1) (-1)) (by decide)
    have hF11 := Fr_puti hF2 ei11 (by decide)
    exact hret _ _ _ _ _ _ dX9_isOver_32 hT hS ⟨hR11, hF11⟩
set_option maxRecDepth 100000 in
set_option maxHeartbeats 4000000 in
theorem m_X9_copyRow_102_1_4_0 {l : Launch} {D : va_G} {h : Nat → Nat} {cz : Nat → ClassId} {z : EZ} {i : Nat → Nat → Int32} {g : Nat → Nat → Int64} (hR : Rg rA i) (a_b : Int32) (a_c : Int32) (a_d : Int32) (ha_b : rg 1 1 a_b) (ha_c : rg 4 4 a_c) (ha_d : rg 0 0 a_d) : DtV l yX9_copyRow cX9_copyRow 5 none ({ frames := 0, cells := 0, slots := 0, locals := 0 } : Room) D h cz z i g [.ref (h 102), .int a_b, .int a_c, .int a_d] (fun u => Rg rA u.1 ∧ Fr [102] [] i g u) := by
  refine e_V pn_X9_copyRow (Nat.le_of_ble_eq_true rfl) ?_
  intro p e s m args below meth c ls Q X Y hret hT hl hS
  have hx := X.1
  have hb := X.2.1
  have hl : lv_has ls 5 [(0, .ref (h 102)), (1, .int a_b), (2, .int a_c), (3, .int a_d)] := hl
  have hF : Fr [102] [] i g (i, g) := Fr_rf _ _ _ _
  refine lv_iconst (v := 0) hx hb dX9_copyRow_0 (by decide) ?_
  refine lv_istore (lv' := [(4, .int 0), (0, .ref (h 102)), (1, .int a_b), (2, .int a_c), (3, .int a_d)]) hx hb dX9_copyRow_1 hl (by decide) rfl (fun ls hl => ?_)
  have L3_1 : ∀ (n3_ : Nat) (x3_4 : Int32) (i2 : Nat → Nat → Int32) (g2 : Nat → Nat → Int64) (H : Heap) (locs : List Loc) (ls : Array Slot), rg 0 1 x3_4 → Rg rA i2 → Fr [102] [] i g (i2, g2) → TH D h cz i2 g2 H → va_S (hA h) s.heap H locs → lv_has ls 5 [(0, .ref (h 102)), (1, .int a_b), (2, .int a_c), (3, .int a_d), (4, .int x3_4)] → (1 - x3_4.toInt).toNat < n3_ → W p l e ({ frames := 0, cells := 0, slots := 0, locals := 0 } : Room) s m args below meth c H locs 0 0 Q (F0 m 3 ls []) := by
    intro n3_
    induction n3_ with
    | zero => intro x3_4 i2 g2 H locs ls hhx3_4 hR2 hF2 hT hS hl hm3_; exact absurd hm3_ (Nat.not_lt_zero _)
    | succ n3_ ih3_ =>
      intro x3_4 i2 g2 H locs ls hhx3_4 hR2 hF2 hT hS hl hm3_
      refine lv_iload hx hb dX9_copyRow_3 (lv_at hl 4 rfl) ?_
      refine lv_iload_n hx hb dX9_copyRow_5 rfl (lv_at hl 1 rfl) ?_
      refine lv_icmp_ge (tgt := 31) hx hb dX9_copyRow_6 (by decide) (fun c4 => ?_) (fun c4 => ?_)
      ·
        have q4 : a_b.toInt ≤ x3_4.toInt := i_le c4
        have h5 : rg 1 1 x3_4 := t_ley 1 1 ha_b hhx3_4 (i_le c4) (by decide)
        exact hret _ _ _ _ _ _ dX9_copyRow_31 hT hS ⟨hR2, hF2⟩
      ·
        have q4 : x3_4.toInt < a_b.toInt := i_nle c4
        have h6 : rg 0 0 x3_4 := t_ltx 0 0 hhx3_4 ha_b (i_nle c4) (by decide)
        refine lv_aload_n hx hb dX9_copyRow_9 rfl (lv_at hl 0 rfl) ?_
        refine lv_iload_n hx hb dX9_copyRow_10 rfl (lv_at hl 1 rfl) ?_
        refine lv_iload_n hx hb dX9_copyRow_11 rfl (lv_at hl 3 rfl) ?_
        refine q_imul hx hb dX9_copyRow_12 (fun x7 ex7 => ?_)
        obtain ⟨hx7, ax7⟩ := rg_mul 0 0 ex7 ha_b ha_d (by decide)
        replace ax7 : x7.toInt = a_b.toInt * a_d.toInt := ax7
        refine lv_iload hx hb dX9_copyRow_13 (lv_at hl 4 rfl) ?_
        refine q_iadd hx hb dX9_copyRow_15 (fun x8 ex8 => ?_)
        obtain ⟨hx8, ax8⟩ := rg_add 0 0 ex8 hx7 h6 (by decide)
        replace ax8 : x8.toInt = x7.toInt + x3_4.toInt := ax8
        replace ax8 : x8.toInt = x7.toInt + 0 := by have := h6.1; have := h6.2; omega
        refine lv_aload_n hx hb dX9_copyRow_16 rfl (lv_at hl 0 rfl) ?_
        refine lv_iload_n hx hb dX9_copyRow_17 rfl (lv_at hl 1 rfl) ?_
        refine lv_iload_n hx hb dX9_copyRow_18 rfl (lv_at hl 2 rfl) ?_
        refine q_imul hx hb dX9_copyRow_19 (fun x9 ex9 => ?_)
        obtain ⟨hx9, ax9⟩ := rg_mul 4 4 ex9 ha_b ha_c (by decide)
        replace ax9 : x9.toInt = a_b.toInt * a_c.toInt := ax9
        refine lv_iload hx hb dX9_copyRow_20 (lv_at hl 4 rfl) ?_
        refine q_iadd hx hb dX9_copyRow_22 (fun x10 ex10 => ?_)
        obtain ⟨hx10, ax10⟩ := rg_add 4 4 ex10 hx9 h6 (by decide)
        replace ax10 : x10.toInt = x9.toInt + x3_4.toInt := ax10
        replace ax10 : x10.toInt = x9.toInt + 0 := by have := h6.1; have := h6.2; omega
        refine r_ialdc X hT 102 4 rfl (by decide) (v_in hx10 (by decide)) (cl_c hx10 4 rfl (by decide)) dX9_copyRow_23 ?_
        refine r_iastc X hT hS 102 0 rfl (by decide) (v_in hx8 (by decide)) (cl_c hx8 0 rfl (by decide)) dX9_copyRow_24 (fun H locs i11 ei11 hT hS => ?_)
        have hR11 := Rg_put hR2 ei11 (-2147483648) 2147483647 rfl (rg_top (i2 102 4)) (by decide)
        have hF11 := Fr_puti hF2 ei11 (by decide)
        obtain ⟨x12, ex12⟩ : ∃ y : Int32, y = x3_4 + 1 := ⟨_, rfl⟩
        refine lv_iinc (v := x12) (lv' := [(4, .int x12), (0, .ref (h 102)), (1, .int a_b), (2, .int a_c), (3, .int a_d)]) hx hb dX9_copyRow_25 hl (k := 4) rfl (by rw [ex12]; rfl) (by decide) rfl (fun ls hl => ?_)
        obtain ⟨hx12, ax12⟩ := rg_add 1 1 ex12 h6 (rg_k (by decide) : rg 1 1 1) (by decide)
        replace ax12 : x12.toInt = x3_4.toInt + 1 := ax12
        refine lv_goto (tgt := 3) hx hb dX9_copyRow_28 (by decide) ?_
        exact ih3_ x12 i11 g2 _ _ _ (rg_w hx12 (by decide) : rg 0 1 x12) hR11 hF11 hT hS (lv_sub hl [1, 2, 3, 4, 0] rfl) (m_up ax12 hx12 (by decide) hm3_)
  exact L3_1 _ (0) i g _ _ _ (rg_w (rg_k (by decide) : rg 0 0 0) (by decide) : rg 0 1 0) hR hF hT hS (lv_sub hl [1, 2, 3, 4, 0] rfl) (Nat.lt_succ_self _)
set_option maxRecDepth 100000 in
set_option maxHeartbeats 4000000 in
theorem m_X9_copyRow_103_7_4_0 {l : Launch} {D : va_G} {h : Nat → Nat} {cz : Nat → ClassId} {z : EZ} {i : Nat → Nat → Int32} {g : Nat → Nat → Int64} (hR : Rg rA i) (a_b : Int32) (a_c : Int32) (a_d : Int32) (ha_b : rg 7 7 a_b) (ha_c : rg 4 4 a_c) (ha_d : rg 0 0 a_d) : DtV l yX9_copyRow cX9_copyRow 5 none ({ frames := 0, cells := 0, slots := 0, locals := 0 } : Room) D h cz z i g [.ref (h 103), .int a_b, .int a_c, .int a_d] (fun u => Rg rA u.1 ∧ Fr [103] [] i g u) := by
  refine e_V pn_X9_copyRow (Nat.le_of_ble_eq_true rfl) ?_
  intro p e s m args below meth c ls Q X Y hret hT hl hS
  have hx := X.1
  have hb := X.2.1
  have hl : lv_has ls 5 [(0, .ref (h 103)), (1, .int a_b), (2, .int a_c), (3, .int a_d)] := hl
  have hF : Fr [103] [] i g (i, g) := Fr_rf _ _ _ _
  refine lv_iconst (v := 0) hx hb dX9_copyRow_0 (by decide) ?_
  refine lv_istore (lv' := [(4, .int 0), (0, .ref (h 103)), (1, .int a_b), (2, .int a_c), (3, .int a_d)]) hx hb dX9_copyRow_1 hl (by decide) rfl (fun ls hl => ?_)
  have L3_1 : ∀ (n3_ : Nat) (x3_4 : Int32) (i2 : Nat → Nat → Int32) (g2 : Nat → Nat → Int64) (H : Heap) (locs : List Loc) (ls : Array Slot), rg 0 8 x3_4 → Rg rA i2 → Fr [103] [] i g (i2, g2) → TH D h cz i2 g2 H → va_S (hA h) s.heap H locs → lv_has ls 5 [(0, .ref (h 103)), (1, .int a_b), (2, .int a_c), (3, .int a_d), (4, .int x3_4)] → (8 - x3_4.toInt).toNat < n3_ → W p l e ({ frames := 0, cells := 0, slots := 0, locals := 0 } : Room) s m args below meth c H locs 0 0 Q (F0 m 3 ls []) := by
    intro n3_
    induction n3_ with
    | zero => intro x3_4 i2 g2 H locs ls hhx3_4 hR2 hF2 hT hS hl hm3_; exact absurd hm3_ (Nat.not_lt_zero _)
    | succ n3_ ih3_ =>
      intro x3_4 i2 g2 H locs ls hhx3_4 hR2 hF2 hT hS hl hm3_
      refine lv_iload hx hb dX9_copyRow_3 (lv_at hl 4 rfl) ?_
      refine lv_iload_n hx hb dX9_copyRow_5 rfl (lv_at hl 1 rfl) ?_
      refine lv_icmp_ge (tgt := 31) hx hb dX9_copyRow_6 (by decide) (fun c4 => ?_) (fun c4 => ?_)
      ·
        have q4 : a_b.toInt ≤ x3_4.toInt := i_le c4
        have h5 : rg 7 8 x3_4 := t_ley 7 8 ha_b hhx3_4 (i_le c4) (by decide)
        exact hret _ _ _ _ _ _ dX9_copyRow_31 hT hS ⟨hR2, hF2⟩
      ·
        have q4 : x3_4.toInt < a_b.toInt := i_nle c4
        have h6 : rg 0 6 x3_4 := t_ltx 0 6 hhx3_4 ha_b (i_nle c4) (by decide)
        refine lv_aload_n hx hb dX9_copyRow_9 rfl (lv_at hl 0 rfl) ?_
        refine lv_iload_n hx hb dX9_copyRow_10 rfl (lv_at hl 1 rfl) ?_
        refine lv_iload_n hx hb dX9_copyRow_11 rfl (lv_at hl 3 rfl) ?_
        refine q_imul hx hb dX9_copyRow_12 (fun x7 ex7 => ?_)
        obtain ⟨hx7, ax7⟩ := rg_mul 0 0 ex7 ha_b ha_d (by decide)
        replace ax7 : x7.toInt = a_b.toInt * a_d.toInt := ax7
        refine lv_iload hx hb dX9_copyRow_13 (lv_at hl 4 rfl) ?_
        refine q_iadd hx hb dX9_copyRow_15 (fun x8 ex8 => ?_)
        obtain ⟨hx8, ax8⟩ := rg_add 0 6 ex8 hx7 h6 (by decide)
        replace ax8 : x8.toInt = x7.toInt + x3_4.toInt := ax8
        replace ax8 : x8.toInt = x3_4.toInt + 0 := by have := hx7.1; have := hx7.2; omega
        refine lv_aload_n hx hb dX9_copyRow_16 rfl (lv_at hl 0 rfl) ?_
        refine lv_iload_n hx hb dX9_copyRow_17 rfl (lv_at hl 1 rfl) ?_
        refine lv_iload_n hx hb dX9_copyRow_18 rfl (lv_at hl 2 rfl) ?_
        refine q_imul hx hb dX9_copyRow_19 (fun x9 ex9 => ?_)
        obtain ⟨hx9, ax9⟩ := rg_mul 28 28 ex9 ha_b ha_c (by decide)
        replace ax9 : x9.toInt = a_b.toInt * a_c.toInt := ax9
        refine lv_iload hx hb dX9_copyRow_20 (lv_at hl 4 rfl) ?_
        refine q_iadd hx hb dX9_copyRow_22 (fun x10 ex10 => ?_)
        obtain ⟨hx10, ax10⟩ := rg_add 28 34 ex10 hx9 h6 (by decide)
        replace ax10 : x10.toInt = x9.toInt + x3_4.toInt := ax10
        replace ax10 : x10.toInt = x3_4.toInt + 28 := by have := hx9.1; have := hx9.2; omega
        refine r_iald X hT 103 rfl (by decide) (v_in hx10 (by decide)) dX9_copyRow_23 ?_
        have h11 : rg 0 20 (i2 103 x10.toNatClampNeg) := Rg_ata hR2 103 x10.toNatClampNeg 0 20 (v_lt (v_in hx10 (by decide))) (aff_at (m := 1) (a := 0) (n := 7) (c := 28) (by decide) (v := x3_4.toInt) ⟨by have := h6.1; omega, by have := h6.2; omega⟩ (by have := ax10; omega))
        refine r_iast X hT hS 103 rfl (by decide) (v_in hx8 (by decide)) dX9_copyRow_24 (fun H locs i12 ei12 hT hS => ?_)
        have hR12 := Rg_mv hR2 ei12 (v_lt (v_in hx10 (by decide))) (aff_mv (T := rA) (j := 103) (m := 1) (a := 0) (n := 7) (c := 0) (c1 := 28) (by decide) (v := x3_4.toInt) ⟨by have := h6.1; omega, by have := h6.2; omega⟩ (by have := ax8; omega) (by have := ax10; omega))
        have hF12 := Fr_puti hF2 ei12 (by decide)
        obtain ⟨x13, ex13⟩ : ∃ y : Int32, y = x3_4 + 1 := ⟨_, rfl⟩
        refine lv_iinc (v := x13) (lv' := [(4, .int x13), (0, .ref (h 103)), (1, .int a_b), (2, .int a_c), (3, .int a_d)]) hx hb dX9_copyRow_25 hl (k := 4) rfl (by rw [ex13]; rfl) (by decide) rfl (fun ls hl => ?_)
        obtain ⟨hx13, ax13⟩ := rg_add 1 7 ex13 h6 (rg_k (by decide) : rg 1 1 1) (by decide)
        replace ax13 : x13.toInt = x3_4.toInt + 1 := ax13
        refine lv_goto (tgt := 3) hx hb dX9_copyRow_28 (by decide) ?_
        exact ih3_ x13 i12 g2 _ _ _ (rg_w hx13 (by decide) : rg 0 8 x13) hR12 hF12 hT hS (lv_sub hl [1, 2, 3, 4, 0] rfl) (m_up ax13 hx13 (by decide) hm3_)
  exact L3_1 _ (0) i g _ _ _ (rg_w (rg_k (by decide) : rg 0 0 0) (by decide) : rg 0 8 0) hR hF hT hS (lv_sub hl [1, 2, 3, 4, 0] rfl) (Nat.lt_succ_self _)
set_option maxRecDepth 100000 in
set_option maxHeartbeats 4000000 in
theorem m_X9_copyRow_104_18_4_0 {l : Launch} {D : va_G} {h : Nat → Nat} {cz : Nat → ClassId} {z : EZ} {i : Nat → Nat → Int32} {g : Nat → Nat → Int64} (hR : Rg rA i) (a_b : Int32) (a_c : Int32) (a_d : Int32) (ha_b : rg 18 18 a_b) (ha_c : rg 4 4 a_c) (ha_d : rg 0 0 a_d) : DtV l yX9_copyRow cX9_copyRow 5 none ({ frames := 0, cells := 0, slots := 0, locals := 0 } : Room) D h cz z i g [.ref (h 104), .int a_b, .int a_c, .int a_d] (fun u => Rg rA u.1 ∧ Fr [104] [] i g u) := by
  refine e_V pn_X9_copyRow (Nat.le_of_ble_eq_true rfl) ?_
  intro p e s m args below meth c ls Q X Y hret hT hl hS
  have hx := X.1
  have hb := X.2.1
  have hl : lv_has ls 5 [(0, .ref (h 104)), (1, .int a_b), (2, .int a_c), (3, .int a_d)] := hl
  have hF : Fr [104] [] i g (i, g) := Fr_rf _ _ _ _
  refine lv_iconst (v := 0) hx hb dX9_copyRow_0 (by decide) ?_
  refine lv_istore (lv' := [(4, .int 0), (0, .ref (h 104)), (1, .int a_b), (2, .int a_c), (3, .int a_d)]) hx hb dX9_copyRow_1 hl (by decide) rfl (fun ls hl => ?_)
  have L3_1 : ∀ (n3_ : Nat) (x3_4 : Int32) (i2 : Nat → Nat → Int32) (g2 : Nat → Nat → Int64) (H : Heap) (locs : List Loc) (ls : Array Slot), rg 0 20 x3_4 → Rg rA i2 → Fr [104] [] i g (i2, g2) → TH D h cz i2 g2 H → va_S (hA h) s.heap H locs → lv_has ls 5 [(0, .ref (h 104)), (1, .int a_b), (2, .int a_c), (3, .int a_d), (4, .int x3_4)] → (20 - x3_4.toInt).toNat < n3_ → W p l e ({ frames := 0, cells := 0, slots := 0, locals := 0 } : Room) s m args below meth c H locs 0 0 Q (F0 m 3 ls []) := by
    intro n3_
    induction n3_ with
    | zero => intro x3_4 i2 g2 H locs ls hhx3_4 hR2 hF2 hT hS hl hm3_; exact absurd hm3_ (Nat.not_lt_zero _)
    | succ n3_ ih3_ =>
      intro x3_4 i2 g2 H locs ls hhx3_4 hR2 hF2 hT hS hl hm3_
      refine lv_iload hx hb dX9_copyRow_3 (lv_at hl 4 rfl) ?_
      refine lv_iload_n hx hb dX9_copyRow_5 rfl (lv_at hl 1 rfl) ?_
      refine lv_icmp_ge (tgt := 31) hx hb dX9_copyRow_6 (by decide) (fun c4 => ?_) (fun c4 => ?_)
      ·
        have q4 : a_b.toInt ≤ x3_4.toInt := i_le c4
        have h5 : rg 18 20 x3_4 := t_ley 18 20 ha_b hhx3_4 (i_le c4) (by decide)
        exact hret _ _ _ _ _ _ dX9_copyRow_31 hT hS ⟨hR2, hF2⟩
      ·
        have q4 : x3_4.toInt < a_b.toInt := i_nle c4
        have h6 : rg 0 17 x3_4 := t_ltx 0 17 hhx3_4 ha_b (i_nle c4) (by decide)
        refine lv_aload_n hx hb dX9_copyRow_9 rfl (lv_at hl 0 rfl) ?_
        refine lv_iload_n hx hb dX9_copyRow_10 rfl (lv_at hl 1 rfl) ?_
        refine lv_iload_n hx hb dX9_copyRow_11 rfl (lv_at hl 3 rfl) ?_
        refine q_imul hx hb dX9_copyRow_12 (fun x7 ex7 => ?_)
        obtain ⟨hx7, ax7⟩ := rg_mul 0 0 ex7 ha_b ha_d (by decide)
        replace ax7 : x7.toInt = a_b.toInt * a_d.toInt := ax7
        refine lv_iload hx hb dX9_copyRow_13 (lv_at hl 4 rfl) ?_
        refine q_iadd hx hb dX9_copyRow_15 (fun x8 ex8 => ?_)
        obtain ⟨hx8, ax8⟩ := rg_add 0 17 ex8 hx7 h6 (by decide)
        replace ax8 : x8.toInt = x7.toInt + x3_4.toInt := ax8
        replace ax8 : x8.toInt = x3_4.toInt + 0 := by have := hx7.1; have := hx7.2; omega
        refine lv_aload_n hx hb dX9_copyRow_16 rfl (lv_at hl 0 rfl) ?_
        refine lv_iload_n hx hb dX9_copyRow_17 rfl (lv_at hl 1 rfl) ?_
        refine lv_iload_n hx hb dX9_copyRow_18 rfl (lv_at hl 2 rfl) ?_
        refine q_imul hx hb dX9_copyRow_19 (fun x9 ex9 => ?_)
        obtain ⟨hx9, ax9⟩ := rg_mul 72 72 ex9 ha_b ha_c (by decide)
        replace ax9 : x9.toInt = a_b.toInt * a_c.toInt := ax9
        refine lv_iload hx hb dX9_copyRow_20 (lv_at hl 4 rfl) ?_
        refine q_iadd hx hb dX9_copyRow_22 (fun x10 ex10 => ?_)
        obtain ⟨hx10, ax10⟩ := rg_add 72 89 ex10 hx9 h6 (by decide)
        replace ax10 : x10.toInt = x9.toInt + x3_4.toInt := ax10
        replace ax10 : x10.toInt = x3_4.toInt + 72 := by have := hx9.1; have := hx9.2; omega
        refine r_iald X hT 104 rfl (by decide) (v_in hx10 (by decide)) dX9_copyRow_23 ?_
        refine r_iast X hT hS 104 rfl (by decide) (v_in hx8 (by decide)) dX9_copyRow_24 (fun H locs i11 ei11 hT hS => ?_)
        have hR11 := Rg_put hR2 ei11 0 60 rfl (Rg_at hR2 104 x10.toNatClampNeg 0 60 (v_lt (v_in hx10 (by decide))) rfl) (by decide)
        have hF11 := Fr_puti hF2 ei11 (by decide)
        obtain ⟨x12, ex12⟩ : ∃ y : Int32, y = x3_4 + 1 := ⟨_, rfl⟩
        refine lv_iinc (v := x12) (lv' := [(4, .int x12), (0, .ref (h 104)), (1, .int a_b), (2, .int a_c), (3, .int a_d)]) hx hb dX9_copyRow_25 hl (k := 4) rfl (by rw [ex12]; rfl) (by decide) rfl (fun ls hl => ?_)
        obtain ⟨hx12, ax12⟩ := rg_add 1 18 ex12 h6 (rg_k (by decide) : rg 1 1 1) (by decide)
        replace ax12 : x12.toInt = x3_4.toInt + 1 := ax12
        refine lv_goto (tgt := 3) hx hb dX9_copyRow_28 (by decide) ?_
        exact ih3_ x12 i11 g2 _ _ _ (rg_w hx12 (by decide) : rg 0 20 x12) hR11 hF11 hT hS (lv_sub hl [1, 2, 3, 4, 0] rfl) (m_up ax12 hx12 (by decide) hm3_)
  exact L3_1 _ (0) i g _ _ _ (rg_w (rg_k (by decide) : rg 0 0 0) (by decide) : rg 0 20 0) hR hF hT hS (lv_sub hl [1, 2, 3, 4, 0] rfl) (Nat.lt_succ_self _)
set_option maxRecDepth 100000 in
set_option maxHeartbeats 4000000 in
theorem m_X9_copyRow_105_20_4_0 {l : Launch} {D : va_G} {h : Nat → Nat} {cz : Nat → ClassId} {z : EZ} {i : Nat → Nat → Int32} {g : Nat → Nat → Int64} (hR : Rg rA i) (a_b : Int32) (a_c : Int32) (a_d : Int32) (ha_b : rg 20 20 a_b) (ha_c : rg 4 4 a_c) (ha_d : rg 0 0 a_d) : DtV l yX9_copyRow cX9_copyRow 5 none ({ frames := 0, cells := 0, slots := 0, locals := 0 } : Room) D h cz z i g [.ref (h 105), .int a_b, .int a_c, .int a_d] (fun u => Rg rA u.1 ∧ Fr [105] [] i g u) := by
  refine e_V pn_X9_copyRow (Nat.le_of_ble_eq_true rfl) ?_
  intro p e s m args below meth c ls Q X Y hret hT hl hS
  have hx := X.1
  have hb := X.2.1
  have hl : lv_has ls 5 [(0, .ref (h 105)), (1, .int a_b), (2, .int a_c), (3, .int a_d)] := hl
  have hF : Fr [105] [] i g (i, g) := Fr_rf _ _ _ _
  refine lv_iconst (v := 0) hx hb dX9_copyRow_0 (by decide) ?_
  refine lv_istore (lv' := [(4, .int 0), (0, .ref (h 105)), (1, .int a_b), (2, .int a_c), (3, .int a_d)]) hx hb dX9_copyRow_1 hl (by decide) rfl (fun ls hl => ?_)
  have L3_1 : ∀ (n3_ : Nat) (x3_4 : Int32) (i2 : Nat → Nat → Int32) (g2 : Nat → Nat → Int64) (H : Heap) (locs : List Loc) (ls : Array Slot), rg 0 20 x3_4 → Rg rA i2 → Fr [105] [] i g (i2, g2) → TH D h cz i2 g2 H → va_S (hA h) s.heap H locs → lv_has ls 5 [(0, .ref (h 105)), (1, .int a_b), (2, .int a_c), (3, .int a_d), (4, .int x3_4)] → (20 - x3_4.toInt).toNat < n3_ → W p l e ({ frames := 0, cells := 0, slots := 0, locals := 0 } : Room) s m args below meth c H locs 0 0 Q (F0 m 3 ls []) := by
    intro n3_
    induction n3_ with
    | zero => intro x3_4 i2 g2 H locs ls hhx3_4 hR2 hF2 hT hS hl hm3_; exact absurd hm3_ (Nat.not_lt_zero _)
    | succ n3_ ih3_ =>
      intro x3_4 i2 g2 H locs ls hhx3_4 hR2 hF2 hT hS hl hm3_
      refine lv_iload hx hb dX9_copyRow_3 (lv_at hl 4 rfl) ?_
      refine lv_iload_n hx hb dX9_copyRow_5 rfl (lv_at hl 1 rfl) ?_
      refine lv_icmp_ge (tgt := 31) hx hb dX9_copyRow_6 (by decide) (fun c4 => ?_) (fun c4 => ?_)
      ·
        have q4 : a_b.toInt ≤ x3_4.toInt := i_le c4
        have h5 : rg 20 20 x3_4 := t_ley 20 20 ha_b hhx3_4 (i_le c4) (by decide)
        exact hret _ _ _ _ _ _ dX9_copyRow_31 hT hS ⟨hR2, hF2⟩
      ·
        have q4 : x3_4.toInt < a_b.toInt := i_nle c4
        have h6 : rg 0 19 x3_4 := t_ltx 0 19 hhx3_4 ha_b (i_nle c4) (by decide)
        refine lv_aload_n hx hb dX9_copyRow_9 rfl (lv_at hl 0 rfl) ?_
        refine lv_iload_n hx hb dX9_copyRow_10 rfl (lv_at hl 1 rfl) ?_
        refine lv_iload_n hx hb dX9_copyRow_11 rfl (lv_at hl 3 rfl) ?_
        refine q_imul hx hb dX9_copyRow_12 (fun x7 ex7 => ?_)
        obtain ⟨hx7, ax7⟩ := rg_mul 0 0 ex7 ha_b ha_d (by decide)
        replace ax7 : x7.toInt = a_b.toInt * a_d.toInt := ax7
        refine lv_iload hx hb dX9_copyRow_13 (lv_at hl 4 rfl) ?_
        refine q_iadd hx hb dX9_copyRow_15 (fun x8 ex8 => ?_)
        obtain ⟨hx8, ax8⟩ := rg_add 0 19 ex8 hx7 h6 (by decide)
        replace ax8 : x8.toInt = x7.toInt + x3_4.toInt := ax8
        replace ax8 : x8.toInt = x3_4.toInt + 0 := by have := hx7.1; have := hx7.2; omega
        refine lv_aload_n hx hb dX9_copyRow_16 rfl (lv_at hl 0 rfl) ?_
        refine lv_iload_n hx hb dX9_copyRow_17 rfl (lv_at hl 1 rfl) ?_
        refine lv_iload_n hx hb dX9_copyRow_18 rfl (lv_at hl 2 rfl) ?_
        refine q_imul hx hb dX9_copyRow_19 (fun x9 ex9 => ?_)
        obtain ⟨hx9, ax9⟩ := rg_mul 80 80 ex9 ha_b ha_c (by decide)
        replace ax9 : x9.toInt = a_b.toInt * a_c.toInt := ax9
        refine lv_iload hx hb dX9_copyRow_20 (lv_at hl 4 rfl) ?_
        refine q_iadd hx hb dX9_copyRow_22 (fun x10 ex10 => ?_)
        obtain ⟨hx10, ax10⟩ := rg_add 80 99 ex10 hx9 h6 (by decide)
        replace ax10 : x10.toInt = x9.toInt + x3_4.toInt := ax10
        replace ax10 : x10.toInt = x3_4.toInt + 80 := by have := hx9.1; have := hx9.2; omega
        refine r_iald X hT 105 rfl (by decide) (v_in hx10 (by decide)) dX9_copyRow_23 ?_
        refine r_iast X hT hS 105 rfl (by decide) (v_in hx8 (by decide)) dX9_copyRow_24 (fun H locs i11 ei11 hT hS => ?_)
        have hR11 := Rg_put hR2 ei11 0 5 rfl (Rg_at hR2 105 x10.toNatClampNeg 0 5 (v_lt (v_in hx10 (by decide))) rfl) (by decide)
        have hF11 := Fr_puti hF2 ei11 (by decide)
        obtain ⟨x12, ex12⟩ : ∃ y : Int32, y = x3_4 + 1 := ⟨_, rfl⟩
        refine lv_iinc (v := x12) (lv' := [(4, .int x12), (0, .ref (h 105)), (1, .int a_b), (2, .int a_c), (3, .int a_d)]) hx hb dX9_copyRow_25 hl (k := 4) rfl (by rw [ex12]; rfl) (by decide) rfl (fun ls hl => ?_)
        obtain ⟨hx12, ax12⟩ := rg_add 1 20 ex12 h6 (rg_k (by decide) : rg 1 1 1) (by decide)
        replace ax12 : x12.toInt = x3_4.toInt + 1 := ax12
        refine lv_goto (tgt := 3) hx hb dX9_copyRow_28 (by decide) ?_
        exact ih3_ x12 i11 g2 _ _ _ (rg_w hx12 (by decide) : rg 0 20 x12) hR11 hF11 hT hS (lv_sub hl [1, 2, 3, 4, 0] rfl) (m_up ax12 hx12 (by decide) hm3_)
  exact L3_1 _ (0) i g _ _ _ (rg_w (rg_k (by decide) : rg 0 0 0) (by decide) : rg 0 20 0) hR hF hT hS (lv_sub hl [1, 2, 3, 4, 0] rfl) (Nat.lt_succ_self _)
set_option maxRecDepth 100000 in
set_option maxHeartbeats 4000000 in
theorem m_X9_copyRow_106_16_4_0 {l : Launch} {D : va_G} {h : Nat → Nat} {cz : Nat → ClassId} {z : EZ} {i : Nat → Nat → Int32} {g : Nat → Nat → Int64} (hR : Rg rA i) (a_b : Int32) (a_c : Int32) (a_d : Int32) (ha_b : rg 16 16 a_b) (ha_c : rg 4 4 a_c) (ha_d : rg 0 0 a_d) : DtV l yX9_copyRow cX9_copyRow 5 none ({ frames := 0, cells := 0, slots := 0, locals := 0 } : Room) D h cz z i g [.ref (h 106), .int a_b, .int a_c, .int a_d] (fun u => Rg rA u.1 ∧ Fr [106] [] i g u) := by
  refine e_V pn_X9_copyRow (Nat.le_of_ble_eq_true rfl) ?_
  intro p e s m args below meth c ls Q X Y hret hT hl hS
  have hx := X.1
  have hb := X.2.1
  have hl : lv_has ls 5 [(0, .ref (h 106)), (1, .int a_b), (2, .int a_c), (3, .int a_d)] := hl
  have hF : Fr [106] [] i g (i, g) := Fr_rf _ _ _ _
  refine lv_iconst (v := 0) hx hb dX9_copyRow_0 (by decide) ?_
  refine lv_istore (lv' := [(4, .int 0), (0, .ref (h 106)), (1, .int a_b), (2, .int a_c), (3, .int a_d)]) hx hb dX9_copyRow_1 hl (by decide) rfl (fun ls hl => ?_)
  have L3_1 : ∀ (n3_ : Nat) (x3_4 : Int32) (i2 : Nat → Nat → Int32) (g2 : Nat → Nat → Int64) (H : Heap) (locs : List Loc) (ls : Array Slot), rg 0 20 x3_4 → Rg rA i2 → Fr [106] [] i g (i2, g2) → TH D h cz i2 g2 H → va_S (hA h) s.heap H locs → lv_has ls 5 [(0, .ref (h 106)), (1, .int a_b), (2, .int a_c), (3, .int a_d), (4, .int x3_4)] → (20 - x3_4.toInt).toNat < n3_ → W p l e ({ frames := 0, cells := 0, slots := 0, locals := 0 } : Room) s m args below meth c H locs 0 0 Q (F0 m 3 ls []) := by
    intro n3_
    induction n3_ with
    | zero => intro x3_4 i2 g2 H locs ls hhx3_4 hR2 hF2 hT hS hl hm3_; exact absurd hm3_ (Nat.not_lt_zero _)
    | succ n3_ ih3_ =>
      intro x3_4 i2 g2 H locs ls hhx3_4 hR2 hF2 hT hS hl hm3_
      refine lv_iload hx hb dX9_copyRow_3 (lv_at hl 4 rfl) ?_
      refine lv_iload_n hx hb dX9_copyRow_5 rfl (lv_at hl 1 rfl) ?_
      refine lv_icmp_ge (tgt := 31) hx hb dX9_copyRow_6 (by decide) (fun c4 => ?_) (fun c4 => ?_)
      ·
        have q4 : a_b.toInt ≤ x3_4.toInt := i_le c4
        have h5 : rg 16 20 x3_4 := t_ley 16 20 ha_b hhx3_4 (i_le c4) (by decide)
        exact hret _ _ _ _ _ _ dX9_copyRow_31 hT hS ⟨hR2, hF2⟩
      ·
        have q4 : x3_4.toInt < a_b.toInt := i_nle c4
        have h6 : rg 0 15 x3_4 := t_ltx 0 15 hhx3_4 ha_b (i_nle c4) (by decide)
        refine lv_aload_n hx hb dX9_copyRow_9 rfl (lv_at hl 0 rfl) ?_
        refine lv_iload_n hx hb dX9_copyRow_10 rfl (lv_at hl 1 rfl) ?_
        refine lv_iload_n hx hb dX9_copyRow_11 rfl (lv_at hl 3 rfl) ?_
        refine q_imul hx hb dX9_copyRow_12 (fun x7 ex7 => ?_)
        obtain ⟨hx7, ax7⟩ := rg_mul 0 0 ex7 ha_b ha_d (by decide)
        replace ax7 : x7.toInt = a_b.toInt * a_d.toInt := ax7
        refine lv_iload hx hb dX9_copyRow_13 (lv_at hl 4 rfl) ?_
        refine q_iadd hx hb dX9_copyRow_15 (fun x8 ex8 => ?_)
        obtain ⟨hx8, ax8⟩ := rg_add 0 15 ex8 hx7 h6 (by decide)
        replace ax8 : x8.toInt = x7.toInt + x3_4.toInt := ax8
        replace ax8 : x8.toInt = x3_4.toInt + 0 := by have := hx7.1; have := hx7.2; omega
        refine lv_aload_n hx hb dX9_copyRow_16 rfl (lv_at hl 0 rfl) ?_
        refine lv_iload_n hx hb dX9_copyRow_17 rfl (lv_at hl 1 rfl) ?_
        refine lv_iload_n hx hb dX9_copyRow_18 rfl (lv_at hl 2 rfl) ?_
        refine q_imul hx hb dX9_copyRow_19 (fun x9 ex9 => ?_)
        obtain ⟨hx9, ax9⟩ := rg_mul 64 64 ex9 ha_b ha_c (by decide)
        replace ax9 : x9.toInt = a_b.toInt * a_c.toInt := ax9
        refine lv_iload hx hb dX9_copyRow_20 (lv_at hl 4 rfl) ?_
        refine q_iadd hx hb dX9_copyRow_22 (fun x10 ex10 => ?_)
        obtain ⟨hx10, ax10⟩ := rg_add 64 79 ex10 hx9 h6 (by decide)
        replace ax10 : x10.toInt = x9.toInt + x3_4.toInt := ax10
        replace ax10 : x10.toInt = x3_4.toInt + 64 := by have := hx9.1; have := hx9.2; omega
        refine r_iald X hT 106 rfl (by decide) (v_in hx10 (by decide)) dX9_copyRow_23 ?_
        have h11 : rg 0 11 (i2 106 x10.toNatClampNeg) := Rg_ata hR2 106 x10.toNatClampNeg 0 11 (v_lt (v_in hx10 (by decide))) (aff_at (m := 1) (a := 0) (n := 16) (c := 64) (by decide) (v := x3_4.toInt) ⟨by have := h6.1; omega, by have := h6.2; omega⟩ (by have := ax10; omega))
        refine r_iast X hT hS 106 rfl (by decide) (v_in hx8 (by decide)) dX9_copyRow_24 (fun H locs i12 ei12 hT hS => ?_)
        have hR12 := Rg_mv hR2 ei12 (v_lt (v_in hx10 (by decide))) (aff_mv (T := rA) (j := 106) (m := 1) (a := 0) (n := 16) (c := 0) (c1 := 64) (by decide) (v := x3_4.toInt) ⟨by have := h6.1; omega, by have := h6.2; omega⟩ (by have := ax8; omega) (by have := ax10; omega))
        have hF12 := Fr_puti hF2 ei12 (by decide)
        obtain ⟨x13, ex13⟩ : ∃ y : Int32, y = x3_4 + 1 := ⟨_, rfl⟩
        refine lv_iinc (v := x13) (lv' := [(4, .int x13), (0, .ref (h 106)), (1, .int a_b), (2, .int a_c), (3, .int a_d)]) hx hb dX9_copyRow_25 hl (k := 4) rfl (by rw [ex13]; rfl) (by decide) rfl (fun ls hl => ?_)
        obtain ⟨hx13, ax13⟩ := rg_add 1 16 ex13 h6 (rg_k (by decide) : rg 1 1 1) (by decide)
        replace ax13 : x13.toInt = x3_4.toInt + 1 := ax13
        refine lv_goto (tgt := 3) hx hb dX9_copyRow_28 (by decide) ?_
        exact ih3_ x13 i12 g2 _ _ _ (rg_w hx13 (by decide) : rg 0 20 x13) hR12 hF12 hT hS (lv_sub hl [1, 2, 3, 4, 0] rfl) (m_up ax13 hx13 (by decide) hm3_)
  exact L3_1 _ (0) i g _ _ _ (rg_w (rg_k (by decide) : rg 0 0 0) (by decide) : rg 0 20 0) hR hF hT hS (lv_sub hl [1, 2, 3, 4, 0] rfl) (Nat.lt_succ_self _)
set_option maxRecDepth 100000 in
set_option maxHeartbeats 4000000 in
theorem m_X9_copyRow_107_60_4_0 {l : Launch} {D : va_G} {h : Nat → Nat} {cz : Nat → ClassId} {z : EZ} {i : Nat → Nat → Int32} {g : Nat → Nat → Int64} (hR : Rg rA i) (a_b : Int32) (a_c : Int32) (a_d : Int32) (ha_b : rg 60 60 a_b) (ha_c : rg 4 4 a_c) (ha_d : rg 0 0 a_d) : DtV l yX9_copyRow cX9_copyRow 5 none ({ frames := 0, cells := 0, slots := 0, locals := 0 } : Room) D h cz z i g [.ref (h 107), .int a_b, .int a_c, .int a_d] (fun u => Rg rA u.1 ∧ Fr [107] [] i g u) := by
  refine e_V pn_X9_copyRow (Nat.le_of_ble_eq_true rfl) ?_
  intro p e s m args below meth c ls Q X Y hret hT hl hS
  have hx := X.1
  have hb := X.2.1
  have hl : lv_has ls 5 [(0, .ref (h 107)), (1, .int a_b), (2, .int a_c), (3, .int a_d)] := hl
  have hF : Fr [107] [] i g (i, g) := Fr_rf _ _ _ _
  refine lv_iconst (v := 0) hx hb dX9_copyRow_0 (by decide) ?_
  refine lv_istore (lv' := [(4, .int 0), (0, .ref (h 107)), (1, .int a_b), (2, .int a_c), (3, .int a_d)]) hx hb dX9_copyRow_1 hl (by decide) rfl (fun ls hl => ?_)
  have L3_1 : ∀ (n3_ : Nat) (x3_4 : Int32) (i2 : Nat → Nat → Int32) (g2 : Nat → Nat → Int64) (H : Heap) (locs : List Loc) (ls : Array Slot), rg 0 60 x3_4 → Rg rA i2 → Fr [107] [] i g (i2, g2) → TH D h cz i2 g2 H → va_S (hA h) s.heap H locs → lv_has ls 5 [(0, .ref (h 107)), (1, .int a_b), (2, .int a_c), (3, .int a_d), (4, .int x3_4)] → (60 - x3_4.toInt).toNat < n3_ → W p l e ({ frames := 0, cells := 0, slots := 0, locals := 0 } : Room) s m args below meth c H locs 0 0 Q (F0 m 3 ls []) := by
    intro n3_
    induction n3_ with
    | zero => intro x3_4 i2 g2 H locs ls hhx3_4 hR2 hF2 hT hS hl hm3_; exact absurd hm3_ (Nat.not_lt_zero _)
    | succ n3_ ih3_ =>
      intro x3_4 i2 g2 H locs ls hhx3_4 hR2 hF2 hT hS hl hm3_
      refine lv_iload hx hb dX9_copyRow_3 (lv_at hl 4 rfl) ?_
      refine lv_iload_n hx hb dX9_copyRow_5 rfl (lv_at hl 1 rfl) ?_
      refine lv_icmp_ge (tgt := 31) hx hb dX9_copyRow_6 (by decide) (fun c4 => ?_) (fun c4 => ?_)
      ·
        have q4 : a_b.toInt ≤ x3_4.toInt := i_le c4
        have h5 : rg 60 60 x3_4 := t_ley 60 60 ha_b hhx3_4 (i_le c4) (by decide)
        exact hret _ _ _ _ _ _ dX9_copyRow_31 hT hS ⟨hR2, hF2⟩
      ·
        have q4 : x3_4.toInt < a_b.toInt := i_nle c4
        have h6 : rg 0 59 x3_4 := t_ltx 0 59 hhx3_4 ha_b (i_nle c4) (by decide)
        refine lv_aload_n hx hb dX9_copyRow_9 rfl (lv_at hl 0 rfl) ?_
        refine lv_iload_n hx hb dX9_copyRow_10 rfl (lv_at hl 1 rfl) ?_
        refine lv_iload_n hx hb dX9_copyRow_11 rfl (lv_at hl 3 rfl) ?_
        refine q_imul hx hb dX9_copyRow_12 (fun x7 ex7 => ?_)
        obtain ⟨hx7, ax7⟩ := rg_mul 0 0 ex7 ha_b ha_d (by decide)
        replace ax7 : x7.toInt = a_b.toInt * a_d.toInt := ax7
        refine lv_iload hx hb dX9_copyRow_13 (lv_at hl 4 rfl) ?_
        refine q_iadd hx hb dX9_copyRow_15 (fun x8 ex8 => ?_)
        obtain ⟨hx8, ax8⟩ := rg_add 0 59 ex8 hx7 h6 (by decide)
        replace ax8 : x8.toInt = x7.toInt + x3_4.toInt := ax8
        replace ax8 : x8.toInt = x3_4.toInt + 0 := by have := hx7.1; have := hx7.2; omega
        refine lv_aload_n hx hb dX9_copyRow_16 rfl (lv_at hl 0 rfl) ?_
        refine lv_iload_n hx hb dX9_copyRow_17 rfl (lv_at hl 1 rfl) ?_
        refine lv_iload_n hx hb dX9_copyRow_18 rfl (lv_at hl 2 rfl) ?_
        refine q_imul hx hb dX9_copyRow_19 (fun x9 ex9 => ?_)
        obtain ⟨hx9, ax9⟩ := rg_mul 240 240 ex9 ha_b ha_c (by decide)
        replace ax9 : x9.toInt = a_b.toInt * a_c.toInt := ax9
        refine lv_iload hx hb dX9_copyRow_20 (lv_at hl 4 rfl) ?_
        refine q_iadd hx hb dX9_copyRow_22 (fun x10 ex10 => ?_)
        obtain ⟨hx10, ax10⟩ := rg_add 240 299 ex10 hx9 h6 (by decide)
        replace ax10 : x10.toInt = x9.toInt + x3_4.toInt := ax10
        replace ax10 : x10.toInt = x3_4.toInt + 240 := by have := hx9.1; have := hx9.2; omega
        refine r_iald X hT 107 rfl (by decide) (v_in hx10 (by decide)) dX9_copyRow_23 ?_
        have h11 : rg 0 11 (i2 107 x10.toNatClampNeg) := Rg_ata hR2 107 x10.toNatClampNeg 0 11 (v_lt (v_in hx10 (by decide))) (aff_at (m := 1) (a := 0) (n := 60) (c := 240) (by decide) (v := x3_4.toInt) ⟨by have := h6.1; omega, by have := h6.2; omega⟩ (by have := ax10; omega))
        refine r_iast X hT hS 107 rfl (by decide) (v_in hx8 (by decide)) dX9_copyRow_24 (fun H locs i12 ei12 hT hS => ?_)
        have hR12 := Rg_mv hR2 ei12 (v_lt (v_in hx10 (by decide))) (aff_mv (T := rA) (j := 107) (m := 1) (a := 0) (n := 60) (c := 0) (c1 := 240) (by decide) (v := x3_4.toInt) ⟨by have := h6.1; omega, by have := h6.2; omega⟩ (by have := ax8; omega) (by have := ax10; omega))
        have hF12 := Fr_puti hF2 ei12 (by decide)
        obtain ⟨x13, ex13⟩ : ∃ y : Int32, y = x3_4 + 1 := ⟨_, rfl⟩
        refine lv_iinc (v := x13) (lv' := [(4, .int x13), (0, .ref (h 107)), (1, .int a_b), (2, .int a_c), (3, .int a_d)]) hx hb dX9_copyRow_25 hl (k := 4) rfl (by rw [ex13]; rfl) (by decide) rfl (fun ls hl => ?_)
        obtain ⟨hx13, ax13⟩ := rg_add 1 60 ex13 h6 (rg_k (by decide) : rg 1 1 1) (by decide)
        replace ax13 : x13.toInt = x3_4.toInt + 1 := ax13
        refine lv_goto (tgt := 3) hx hb dX9_copyRow_28 (by decide) ?_
        exact ih3_ x13 i12 g2 _ _ _ (rg_w hx13 (by decide) : rg 0 60 x13) hR12 hF12 hT hS (lv_sub hl [1, 2, 3, 4, 0] rfl) (m_up ax13 hx13 (by decide) hm3_)
  exact L3_1 _ (0) i g _ _ _ (rg_w (rg_k (by decide) : rg 0 0 0) (by decide) : rg 0 60 0) hR hF hT hS (lv_sub hl [1, 2, 3, 4, 0] rfl) (Nat.lt_succ_self _)
set_option maxRecDepth 100000 in
set_option maxHeartbeats 4000000 in
theorem m_X9_copyTale_4t4_0t0 {l : Launch} {D : va_G} {h : Nat → Nat} {cz : Nat → ClassId} {z : EZ} {i : Nat → Nat → Int32} {g : Nat → Nat → Int64} (hR : Rg rA i) (a_a : Int32) (a_b : Int32) (ha_a : rg 4 4 a_a) (ha_b : rg 0 0 a_b) : DtV l yX9_copyTale cX9_copyTale 3 none ({ frames := 1, cells := 0, slots := 0, locals := 24 } : Room) D h cz z i g [.ref (h 96), .int a_a, .int a_b] (fun u => Rg rA u.1 ∧ Fr [102, 103, 104, 105, 106, 107] [] i g u) := by
  refine e_V pn_X9_copyTale (Nat.le_of_ble_eq_true rfl) ?_
  intro p e s m args below meth c ls Q X Y hret hT hl hS
  have hx := X.1
  have hb := X.2.1
  have hl : lv_has ls 3 [(0, .ref (h 96)), (1, .int a_a), (2, .int a_b)] := hl
  have hF : Fr [102, 103, 104, 105, 106, 107] [] i g (i, g) := Fr_rf _ _ _ _
  refine lv_aload_n hx hb dX9_copyTale_0 rfl (lv_at hl 0 rfl) ?_
  refine r_getr X hT 96 16 102 fk_9_31 rfl rfl (by decide) dX9_copyTale_1 ?_
  refine lv_iconst (v := 1) hx hb dX9_copyTale_4 (by decide) ?_
  refine lv_iload_n hx hb dX9_copyTale_5 rfl (lv_at hl 1 rfl) ?_
  refine lv_iload_n hx hb dX9_copyTale_6 rfl (lv_at hl 2 rfl) ?_
  refine e_Sv (As := [.ref (h 102), .int 1, .int a_a, .int a_b]) (rest := []) X Y hT hS (m_X9_copyRow_102_1_4_0 hR (1) a_a a_b (rg_k (by decide) : rg 1 1 1) ha_a ha_b) sk_X9_copyRow gm_1638 hd_X9_copyRow ⟨rfl, rfl⟩ ⟨Nat.le_of_ble_eq_true rfl, Nat.le_of_ble_eq_true rfl⟩ hl.1 rfl (Nat.le_of_ble_eq_true rfl) dX9_copyTale_7 ⟨Nat.zero_le _, Nat.zero_le _⟩ (fun i1 g1 H locs hq hT hS => ?_)
  obtain ⟨hR1, hf1⟩ := hq
  have hF1 := Fr_tr hF hf1 (by decide)
  refine lv_aload_n hx hb dX9_copyTale_10 rfl (lv_at hl 0 rfl) ?_
  refine r_getr X hT 96 17 103 fk_9_34 rfl rfl (by decide) dX9_copyTale_11 ?_
  refine lv_bipush (v := 7) hx hb dX9_copyTale_14 (by decide) ?_
  refine lv_iload_n hx hb dX9_copyTale_16 rfl (lv_at hl 1 rfl) ?_
  refine lv_iload_n hx hb dX9_copyTale_17 rfl (lv_at hl 2 rfl) ?_
  refine e_Sv (As := [.ref (h 103), .int 7, .int a_a, .int a_b]) (rest := []) X Y hT hS (m_X9_copyRow_103_7_4_0 hR1 (7) a_a a_b (rg_k (by decide) : rg 7 7 7) ha_a ha_b) sk_X9_copyRow gm_1638 hd_X9_copyRow ⟨rfl, rfl⟩ ⟨Nat.le_of_ble_eq_true rfl, Nat.le_of_ble_eq_true rfl⟩ hl.1 rfl (Nat.le_of_ble_eq_true rfl) dX9_copyTale_18 ⟨Nat.zero_le _, Nat.zero_le _⟩ (fun i2 g2 H locs hq hT hS => ?_)
  obtain ⟨hR2, hf2⟩ := hq
  have hF2 := Fr_tr hF1 hf2 (by decide)
  refine lv_aload_n hx hb dX9_copyTale_21 rfl (lv_at hl 0 rfl) ?_
  refine r_getr X hT 96 18 104 fk_9_37 rfl rfl (by decide) dX9_copyTale_22 ?_
  refine lv_bipush (v := 18) hx hb dX9_copyTale_25 (by decide) ?_
  refine lv_iload_n hx hb dX9_copyTale_27 rfl (lv_at hl 1 rfl) ?_
  refine lv_iload_n hx hb dX9_copyTale_28 rfl (lv_at hl 2 rfl) ?_
  refine e_Sv (As := [.ref (h 104), .int 18, .int a_a, .int a_b]) (rest := []) X Y hT hS (m_X9_copyRow_104_18_4_0 hR2 (18) a_a a_b (rg_k (by decide) : rg 18 18 18) ha_a ha_b) sk_X9_copyRow gm_1638 hd_X9_copyRow ⟨rfl, rfl⟩ ⟨Nat.le_of_ble_eq_true rfl, Nat.le_of_ble_eq_true rfl⟩ hl.1 rfl (Nat.le_of_ble_eq_true rfl) dX9_copyTale_29 ⟨Nat.zero_le _, Nat.zero_le _⟩ (fun i3 g3 H locs hq hT hS => ?_)
  obtain ⟨hR3, hf3⟩ := hq
  have hF3 := Fr_tr hF2 hf3 (by decide)
  refine lv_aload_n hx hb dX9_copyTale_32 rfl (lv_at hl 0 rfl) ?_
  refine r_getr X hT 96 19 105 fk_9_40 rfl rfl (by decide) dX9_copyTale_33 ?_
  refine lv_bipush (v := 20) hx hb dX9_copyTale_36 (by decide) ?_
  refine lv_iload_n hx hb dX9_copyTale_38 rfl (lv_at hl 1 rfl) ?_
  refine lv_iload_n hx hb dX9_copyTale_39 rfl (lv_at hl 2 rfl) ?_
  refine e_Sv (As := [.ref (h 105), .int 20, .int a_a, .int a_b]) (rest := []) X Y hT hS (m_X9_copyRow_105_20_4_0 hR3 (20) a_a a_b (rg_k (by decide) : rg 20 20 20) ha_a ha_b) sk_X9_copyRow gm_1638 hd_X9_copyRow ⟨rfl, rfl⟩ ⟨Nat.le_of_ble_eq_true rfl, Nat.le_of_ble_eq_true rfl⟩ hl.1 rfl (Nat.le_of_ble_eq_true rfl) dX9_copyTale_40 ⟨Nat.zero_le _, Nat.zero_le _⟩ (fun i4 g4 H locs hq hT hS => ?_)
  obtain ⟨hR4, hf4⟩ := hq
  have hF4 := Fr_tr hF3 hf4 (by decide)
  refine lv_aload_n hx hb dX9_copyTale_43 rfl (lv_at hl 0 rfl) ?_
  refine r_getr X hT 96 20 106 fk_9_43 rfl rfl (by decide) dX9_copyTale_44 ?_
  refine lv_bipush (v := 16) hx hb dX9_copyTale_47 (by decide) ?_
  refine lv_iload_n hx hb dX9_copyTale_49 rfl (lv_at hl 1 rfl) ?_
  refine lv_iload_n hx hb dX9_copyTale_50 rfl (lv_at hl 2 rfl) ?_
  refine e_Sv (As := [.ref (h 106), .int 16, .int a_a, .int a_b]) (rest := []) X Y hT hS (m_X9_copyRow_106_16_4_0 hR4 (16) a_a a_b (rg_k (by decide) : rg 16 16 16) ha_a ha_b) sk_X9_copyRow gm_1638 hd_X9_copyRow ⟨rfl, rfl⟩ ⟨Nat.le_of_ble_eq_true rfl, Nat.le_of_ble_eq_true rfl⟩ hl.1 rfl (Nat.le_of_ble_eq_true rfl) dX9_copyTale_51 ⟨Nat.zero_le _, Nat.zero_le _⟩ (fun i5 g5 H locs hq hT hS => ?_)
  obtain ⟨hR5, hf5⟩ := hq
  have hF5 := Fr_tr hF4 hf5 (by decide)
  refine lv_aload_n hx hb dX9_copyTale_54 rfl (lv_at hl 0 rfl) ?_
  refine r_getr X hT 96 21 107 fk_9_46 rfl rfl (by decide) dX9_copyTale_55 ?_
  refine lv_bipush (v := 60) hx hb dX9_copyTale_58 (by decide) ?_
  refine lv_iload_n hx hb dX9_copyTale_60 rfl (lv_at hl 1 rfl) ?_
  refine lv_iload_n hx hb dX9_copyTale_61 rfl (lv_at hl 2 rfl) ?_
  refine e_Sv (As := [.ref (h 107), .int 60, .int a_a, .int a_b]) (rest := []) X Y hT hS (m_X9_copyRow_107_60_4_0 hR5 (60) a_a a_b (rg_k (by decide) : rg 60 60 60) ha_a ha_b) sk_X9_copyRow gm_1638 hd_X9_copyRow ⟨rfl, rfl⟩ ⟨Nat.le_of_ble_eq_true rfl, Nat.le_of_ble_eq_true rfl⟩ hl.1 rfl (Nat.le_of_ble_eq_true rfl) dX9_copyTale_62 ⟨Nat.zero_le _, Nat.zero_le _⟩ (fun i6 g6 H locs hq hT hS => ?_)
  obtain ⟨hR6, hf6⟩ := hq
  have hF6 := Fr_tr hF5 hf6 (by decide)
  exact hret _ _ _ _ _ _ dX9_copyTale_65 hT hS ⟨hR6, hF6⟩
set_option maxRecDepth 100000 in
set_option maxHeartbeats 4000000 in
theorem m_X9_is {l : Launch} {D : va_G} {h : Nat → Nat} {cz : Nat → ClassId} {z : EZ} {i : Nat → Nat → Int32} {g : Nat → Nat → Int64} (hR : Rg rA i) (a_a : Int64) : DtI l yX9_is cX9_is 3 (some .boolean) ({ frames := 0, cells := 0, slots := 0, locals := 0 } : Room) D h cz z i g [.ref (h 96), .long a_a] (fun r u => (u = (i, g) ∧ r = 1 ∧ rg 1 1 (i 96 8) ∧ rg 0 0 (i 96 12)) ∨ (u = (i, g) ∧ r = 0)) := by
  refine e_Z (fun v u hq => (hq.elim (fun hq => (Or.inr hq.2.1)) (fun hq => (Or.inl hq.2)))) pn_X9_is (Nat.le_of_ble_eq_true rfl) ?_
  intro p e s m args below meth c ls Q X Y hret hT hl hS
  have hx := X.1
  have hb := X.2.1
  have hl : lv_has ls 3 [(0, .ref (h 96)), (1, .long a_a)] := hl
  refine lv_aload_n hx hb dX9_is_0 rfl (lv_at hl 0 rfl) ?_
  refine r_geti X hT 96 12 fk_9_135 rfl rfl (by decide) dX9_is_1 ?_
  refine lv_if_ne (tgt := 28) hx hb dX9_is_4 (by decide) (fun c1 => ?_) (fun c1 => ?_)
  ·
    have q1 : ¬ (i 96 12).toInt = 0 := i_ne c1
    have h2 : rg 1 3 (i 96 12) := t_nelo 1 (Rg_at hR 96 12 0 3 (by decide) rfl) (rg_k (by decide) : rg 0 0 0) (i_ne c1) (by decide)
    refine lv_iconst (v := 0) hx hb dX9_is_28 (by decide) ?_
    exact hret 0 _ _ _ _ _ _ dX9_is_29 hT hS (Or.inr ⟨rfl, rfl⟩)
  ·
    have q1 : (i 96 12).toInt = 0 := i_eq c1
    have h3 : rg 0 0 (i 96 12) := t_eqx 0 0 (Rg_at hR 96 12 0 3 (by decide) rfl) (rg_k (by decide) : rg 0 0 0) (i_eq c1) (by decide)
    refine lv_aload_n hx hb dX9_is_7 rfl (lv_at hl 0 rfl) ?_
    refine r_geti X hT 96 8 fk_9_124 rfl rfl (by decide) dX9_is_8 ?_
    refine lv_iconst (v := 1) hx hb dX9_is_11 (by decide) ?_
    refine lv_icmp_ne (tgt := 28) hx hb dX9_is_12 (by decide) (fun c4 => ?_) (fun c4 => ?_)
    ·
      have q4 : ¬ (i 96 8).toInt = 1 := i_ne c4
      refine lv_iconst (v := 0) hx hb dX9_is_28 (by decide) ?_
      exact hret 0 _ _ _ _ _ _ dX9_is_29 hT hS (Or.inr ⟨rfl, rfl⟩)
    ·
      have q4 : (i 96 8).toInt = 1 := i_eq c4
      have h5 : rg 1 1 (i 96 8) := t_eqx 1 1 (rg_top (i 96 8)) (rg_k (by decide) : rg 1 1 1) (i_eq c4) (by decide)
      refine lv_aload_n hx hb dX9_is_15 rfl (lv_at hl 0 rfl) ?_
      refine r_getl X hT 96 11 fk_9_120 rfl rfl (by decide) dX9_is_16 ?_
      refine lv_lload_n hx hb dX9_is_19 rfl (lv_at hl 1 rfl) ?_
      refine W.lcmp hx hb dX9_is_20 ?_
      refine lv_if_ne (tgt := 28) hx hb dX9_is_21 (by decide) (fun c6 => ?_) (fun c6 => ?_)
      ·
        have q6 : ¬ (g 96 11).toInt = a_a.toInt := c_ne c6
        refine lv_iconst (v := 0) hx hb dX9_is_28 (by decide) ?_
        exact hret 0 _ _ _ _ _ _ dX9_is_29 hT hS (Or.inr ⟨rfl, rfl⟩)
      ·
        have q6 : (g 96 11).toInt = a_a.toInt := c_eq c6
        refine lv_iconst (v := 1) hx hb dX9_is_24 (by decide) ?_
        refine lv_goto (tgt := 29) hx hb dX9_is_25 (by decide) ?_
        exact hret 1 _ _ _ _ _ _ dX9_is_29 hT hS (Or.inl ⟨rfl, rfl, h5, h3⟩)
set_option maxRecDepth 100000 in
set_option maxHeartbeats 4000000 in
theorem m_X9_hasRead_3 {l : Launch} {D : va_G} {h : Nat → Nat} {cz : Nat → ClassId} {z : EZ} {i : Nat → Nat → Int32} {g : Nat → Nat → Int64} (hR : Rg rA i) (a_a : Int32) (ha_a : rg 3 3 a_a) : DtI l yX9_hasRead cX9_hasRead 2 (some .int) ({ frames := 0, cells := 0, slots := 0, locals := 0 } : Room) D h cz z i g [.ref (h 96), .int a_a] (fun r u => u = (i, g) ∧ rg 0 6 r ∧ (r = i 103 31)) := by
  refine e_I pn_X9_hasRead (Nat.le_of_ble_eq_true rfl) ?_
  intro p e s m args below meth c ls Q X Y hret hT hl hS
  have hx := X.1
  have hb := X.2.1
  have hl : lv_has ls 2 [(0, .ref (h 96)), (1, .int a_a)] := hl
  refine lv_aload_n hx hb dX9_hasRead_0 rfl (lv_at hl 0 rfl) ?_
  refine r_getr X hT 96 17 103 fk_9_34 rfl rfl (by decide) dX9_hasRead_1 ?_
  refine lv_bipush (v := 28) hx hb dX9_hasRead_4 (by decide) ?_
  refine lv_iload_n hx hb dX9_hasRead_6 rfl (lv_at hl 1 rfl) ?_
  refine q_iadd hx hb dX9_hasRead_7 (fun x1 ex1 => ?_)
  obtain ⟨hx1, ax1⟩ := rg_add 31 31 ex1 (rg_k (by decide) : rg 28 28 28) ha_a (by decide)
  replace ax1 : x1.toInt = 28 + a_a.toInt := ax1
  refine r_ialdc X hT 103 31 rfl (by decide) (v_in hx1 (by decide)) (cl_c hx1 31 rfl (by decide)) dX9_hasRead_8 ?_
  exact hret (i 103 31) _ _ _ _ _ _ dX9_hasRead_9 hT hS ⟨rfl, (Rg_at hR 103 31 0 6 (by decide) rfl), rfl⟩
set_option maxRecDepth 100000 in
set_option maxHeartbeats 4000000 in
theorem m_X9_fails {l : Launch} {D : va_G} {h : Nat → Nat} {cz : Nat → ClassId} {z : EZ} {i : Nat → Nat → Int32} {g : Nat → Nat → Int64} (hR : Rg rA i) (a_a : Int32) (ha_a : rg 1 3 a_a) (hp0 : (i 96 7).toInt ≤ (i 96 6).toInt) : DtV l yX9_fails cX9_fails 2 none ({ frames := 0, cells := 0, slots := 0, locals := 0 } : Room) D h cz z i g [.ref (h 96), .int a_a] (fun u => Rg rA u.1 ∧ Fr [96] [] i g u ∧ ((u.1 96 7).toInt ≤ (u.1 96 6).toInt) ∧ rg 1 3 (u.1 96 12) ∧ prg i u.1) := by
  refine e_V pn_X9_fails (Nat.le_of_ble_eq_true rfl) ?_
  intro p e s m args below meth c ls Q X Y hret hT hl hS
  have hx := X.1
  have hb := X.2.1
  have hl : lv_has ls 2 [(0, .ref (h 96)), (1, .int a_a)] := hl
  have hF : Fr [96] [] i g (i, g) := Fr_rf _ _ _ _
  refine lv_aload_n hx hb dX9_fails_0 rfl (lv_at hl 0 rfl) ?_
  refine r_geti X hT 96 12 fk_9_135 rfl rfl (by decide) dX9_fails_1 ?_
  refine lv_if_eq (tgt := 8) hx hb dX9_fails_4 (by decide) (fun c1 => ?_) (fun c1 => ?_)
  ·
    have q1 : (i 96 12).toInt = 0 := i_eq c1
    have h2 : rg 0 0 (i 96 12) := t_eqx 0 0 (Rg_at hR 96 12 0 3 (by decide) rfl) (rg_k (by decide) : rg 0 0 0) (i_eq c1) (by decide)
    refine lv_aload_n hx hb dX9_fails_8 rfl (lv_at hl 0 rfl) ?_
    refine lv_iload_n hx hb dX9_fails_9 rfl (lv_at hl 1 rfl) ?_
    refine r_puti X hT hS 96 12 pk_9_135 rfl rfl rfl rfl (by decide) dX9_fails_10 (fun H locs i3 ei3 hT hS => ?_)
    have hR3 := Rg_put hR ei3 0 3 rfl ha_a (by decide)
    have hF3 := Fr_puti hF ei3 (by decide)
    have hP3 : (i3 96 7).toInt ≤ (i3 96 6).toInt := by rw [z_k ei3 rfl (by decide), z_k ei3 rfl (by decide)]; exact hp0
    have hQ3_i : prg i i3 := prg_b (prg_rf i) ei3 ha_a (by decide)
    refine lv_aload_n hx hb dX9_fails_13 rfl (lv_at hl 0 rfl) ?_
    refine lv_aload_n hx hb dX9_fails_14 rfl (lv_at hl 0 rfl) ?_
    refine r_geti X hT 96 9 fk_9_114 rfl rfl (by decide) dX9_fails_15 ?_
    refine r_puti X hT hS 96 13 pk_9_138 rfl rfl rfl rfl (by decide) dX9_fails_18 (fun H locs i4 ei4 hT hS => ?_)
    have hR4 := Rg_put hR3 ei4 (-2147483648) 2147483647 rfl (rg_top (i3 96 9)) (by decide)
    have hF4 := Fr_puti hF3 ei4 (by decide)
    have hP4 : (i4 96 7).toInt ≤ (i4 96 6).toInt := by rw [z_k ei4 rfl (by decide), z_k ei4 rfl (by decide)]; exact hP3
    have hQ4_i : prg i i4 := prg_k hQ3_i ei4 (by decide) (by decide) (by decide)
    have e5 : (i4 96 12) = a_a := (z_k ei4 (z_s ei3) (by decide))
    have h6 : rg 1 3 (i4 96 12) := rg_of e5 ha_a
    exact hret _ _ _ _ _ _ dX9_fails_21 hT hS ⟨hR4, hF4, hP4, h6, hQ4_i⟩
  ·
    have q1 : ¬ (i 96 12).toInt = 0 := i_ne c1
    have h7 : rg 1 3 (i 96 12) := t_nelo 1 (Rg_at hR 96 12 0 3 (by decide) rfl) (rg_k (by decide) : rg 0 0 0) (i_ne c1) (by decide)
    exact hret _ _ _ _ _ _ dX9_fails_7 hT hS ⟨hR, hF, hp0, h7, (prg_rf i)⟩
set_option maxRecDepth 100000 in
set_option maxHeartbeats 4000000 in
theorem m_X9_isRoom_3 {l : Launch} {D : va_G} {h : Nat → Nat} {cz : Nat → ClassId} {z : EZ} {i : Nat → Nat → Int32} {g : Nat → Nat → Int64} (hR : Rg rA i) (a_a : Int32) (a_b : Int32) (a_c : Int32) (ha_a : rg 0 1 a_a) (ha_b : rg 3 3 a_b) (ha_c : rg 6 6 a_c) (hp0 : (i 96 7).toInt ≤ (i 96 6).toInt) : DtI l yX9_isRoom cX9_isRoom 4 (some .boolean) ({ frames := 2, cells := 0, slots := 0, locals := 44 } : Room) D h cz z i g [.ref (h 96), .int a_a, .int a_b, .int a_c] (fun r u => (Rg rA u.1 ∧ Fr [96] [96] i g u ∧ r = 1 ∧ ((u.1 96 7).toInt ≤ (u.1 96 6).toInt) ∧ rg 1 1 a_a ∧ rg 0 5 (u.1 103 31) ∧ prg i u.1) ∨ (Rg rA u.1 ∧ Fr [96] [96] i g u ∧ r = 0 ∧ rg 0 0 a_a ∧ u = (i, g)) ∨ (Rg rA u.1 ∧ Fr [96] [96] i g u ∧ r = 0 ∧ ((u.1 96 7).toInt ≤ (u.1 96 6).toInt) ∧ rg 1 3 (u.1 96 12) ∧ prg i u.1)) := by
  refine e_Z (fun v u hq => (hq.elim (fun hq => (Or.inr hq.2.2.1)) (fun hq => (hq.elim (fun hq => (Or.inl hq.2.2.1)) (fun hq => (Or.inl hq.2.2.1)))))) pn_X9_isRoom (Nat.le_of_ble_eq_true rfl) ?_
  intro p e s m args below meth c ls Q X Y hret hT hl hS
  have hx := X.1
  have hb := X.2.1
  have hl : lv_has ls 4 [(0, .ref (h 96)), (1, .int a_a), (2, .int a_b), (3, .int a_c)] := hl
  have hF : Fr [96] [96] i g (i, g) := Fr_rf _ _ _ _
  refine lv_iload_n hx hb dX9_isRoom_0 rfl (lv_at hl 1 rfl) ?_
  refine lv_if_eq (tgt := 18) hx hb dX9_isRoom_1 (by decide) (fun c1 => ?_) (fun c1 => ?_)
  ·
    have q1 : a_a.toInt = 0 := i_eq c1
    have h2 : rg 0 0 a_a := t_eqx 0 0 ha_a (rg_k (by decide) : rg 0 0 0) (i_eq c1) (by decide)
    refine lv_iload_n hx hb dX9_isRoom_18 rfl (lv_at hl 1 rfl) ?_
    refine lv_if_eq (tgt := 33) hx hb dX9_isRoom_19 (by decide) (fun c3 => ?_) (fun c3 => (x_ne h2 (rg_k (by decide) : rg 0 0 0) (i_ne c3) (by decide)).elim)
    have q3 : a_a.toInt = 0 := i_eq c3
    refine lv_iload_n hx hb dX9_isRoom_33 rfl (lv_at hl 1 rfl) ?_
    refine lv_if_eq (tgt := 48) hx hb dX9_isRoom_34 (by decide) (fun c4 => ?_) (fun c4 => (x_ne h2 (rg_k (by decide) : rg 0 0 0) (i_ne c4) (by decide)).elim)
    have q4 : a_a.toInt = 0 := i_eq c4
    refine lv_iconst (v := 0) hx hb dX9_isRoom_48 (by decide) ?_
    exact hret 0 _ _ _ _ _ _ dX9_isRoom_49 hT hS (Or.inr (Or.inl ⟨hR, hF, rfl, h2, rfl⟩))
  ·
    have q1 : ¬ a_a.toInt = 0 := i_ne c1
    have h5 : rg 1 1 a_a := t_nelo 1 ha_a (rg_k (by decide) : rg 0 0 0) (i_ne c1) (by decide)
    refine lv_aload_n hx hb dX9_isRoom_4 rfl (lv_at hl 0 rfl) ?_
    refine lv_iload_n hx hb dX9_isRoom_5 rfl (lv_at hl 2 rfl) ?_
    refine e_Vi (As := [.int a_b]) (rest := []) X Y hT hS (m_X9_hasRead_3 hR a_b ha_b) mk_X9_hasRead gm_1596 rfl rfl (by decide) hd_X9_hasRead ⟨rfl, rfl⟩ ⟨Nat.le_of_ble_eq_true rfl, Nat.le_of_ble_eq_true rfl⟩ hl.1 rfl (Nat.le_of_ble_eq_true rfl) dX9_isRoom_6 ⟨Nat.zero_le _, Nat.zero_le _⟩ (fun r6 i6 g6 H locs hq hT hS => ?_)
    obtain ⟨eh6, hr6, hf6_0⟩ := hq
    rw [(Prod.mk.inj eh6).1, (Prod.mk.inj eh6).2] at hT
    replace hf6_0 : r6 = (i 103 31) := hf6_0
    have h7 : rg 0 6 r6 := rg_of hf6_0 (Rg_at hR 103 31 0 6 (by decide) rfl)
    refine lv_iload_n hx hb dX9_isRoom_9 rfl (lv_at hl 3 rfl) ?_
    refine lv_icmp_ne (tgt := 18) hx hb dX9_isRoom_10 (by decide) (fun c8 => ?_) (fun c8 => ?_)
    ·
      have q8 : ¬ r6.toInt = a_c.toInt := i_ne c8
      have h9 : rg 0 5 r6 := t_nehi 5 h7 ha_c (i_ne c8) (by decide)
      have h10 : rg 0 5 (i 103 31) := rg_fo hf6_0 h9
      refine lv_iload_n hx hb dX9_isRoom_18 rfl (lv_at hl 1 rfl) ?_
      refine lv_if_eq (tgt := 33) hx hb dX9_isRoom_19 (by decide) (fun c11 => (x_eq h5 (rg_k (by decide) : rg 0 0 0) (i_eq c11) (by decide)).elim) (fun c11 => ?_)
      have q11 : ¬ a_a.toInt = 0 := i_ne c11
      refine lv_aload_n hx hb dX9_isRoom_22 rfl (lv_at hl 0 rfl) ?_
      refine r_geti X hT 96 12 fk_9_135 rfl rfl (by decide) dX9_isRoom_23 ?_
      refine lv_if_ne (tgt := 33) hx hb dX9_isRoom_26 (by decide) (fun c12 => ?_) (fun c12 => ?_)
      ·
        have q12 : ¬ (i 96 12).toInt = 0 := i_ne c12
        have h13 : rg 1 3 (i 96 12) := t_nelo 1 (Rg_at hR 96 12 0 3 (by decide) rfl) (rg_k (by decide) : rg 0 0 0) (i_ne c12) (by decide)
        refine lv_iload_n hx hb dX9_isRoom_33 rfl (lv_at hl 1 rfl) ?_
        refine lv_if_eq (tgt := 48) hx hb dX9_isRoom_34 (by decide) (fun c14 => (x_eq h5 (rg_k (by decide) : rg 0 0 0) (i_eq c14) (by decide)).elim) (fun c14 => ?_)
        have q14 : ¬ a_a.toInt = 0 := i_ne c14
        refine lv_aload_n hx hb dX9_isRoom_37 rfl (lv_at hl 0 rfl) ?_
        refine r_geti X hT 96 12 fk_9_135 rfl rfl (by decide) dX9_isRoom_38 ?_
        refine lv_if_ne (tgt := 48) hx hb dX9_isRoom_41 (by decide) (fun c15 => ?_) (fun c15 => (x_eq h13 (rg_k (by decide) : rg 0 0 0) (i_eq c15) (by decide)).elim)
        have q15 : ¬ (i 96 12).toInt = 0 := i_ne c15
        refine lv_iconst (v := 0) hx hb dX9_isRoom_48 (by decide) ?_
        exact hret 0 _ _ _ _ _ _ dX9_isRoom_49 hT hS (Or.inr (Or.inr ⟨hR, hF, rfl, hp0, h13, (prg_rf i)⟩))
      ·
        have q12 : (i 96 12).toInt = 0 := i_eq c12
        have h16 : rg 0 0 (i 96 12) := t_eqx 0 0 (Rg_at hR 96 12 0 3 (by decide) rfl) (rg_k (by decide) : rg 0 0 0) (i_eq c12) (by decide)
        refine lv_aload_n hx hb dX9_isRoom_29 rfl (lv_at hl 0 rfl) ?_
        refine e_Vv (As := []) (rest := []) X Y hT hS (m_X9_follows hR hp0) mk_X9_follows gm_1542 rfl rfl (by decide) hd_X9_follows ⟨rfl, rfl⟩ ⟨Nat.le_of_ble_eq_true rfl, Nat.le_of_ble_eq_true rfl⟩ hl.1 rfl (Nat.le_of_ble_eq_true rfl) dX9_isRoom_30 ⟨Nat.zero_le _, Nat.zero_le _⟩ (fun i17 g17 H locs hq hT hS => ?_)
        obtain ⟨hR17, hf17, hp17_0, hf17_0, hf17_1⟩ := hq
        have hF17 := Fr_tr hF hf17 (by decide)
        replace hp17_0 : (i17 96 7).toInt ≤ (i17 96 6).toInt := hp17_0
        have hQ18_i : prg i i17 := prg_tr (prg_rf i) hf17_0
        refine lv_iload_n hx hb dX9_isRoom_33 rfl (lv_at hl 1 rfl) ?_
        refine lv_if_eq (tgt := 48) hx hb dX9_isRoom_34 (by decide) (fun c19 => (x_eq h5 (rg_k (by decide) : rg 0 0 0) (i_eq c19) (by decide)).elim) (fun c19 => ?_)
        have q19 : ¬ a_a.toInt = 0 := i_ne c19
        refine lv_aload_n hx hb dX9_isRoom_37 rfl (lv_at hl 0 rfl) ?_
        refine r_geti X hT 96 12 fk_9_135 rfl rfl (by decide) dX9_isRoom_38 ?_
        have e20 : (i17 96 12) = (i 96 12) := hf17_1
        have h21 : rg 0 0 (i17 96 12) := rg_of e20 h16
        refine lv_if_ne (tgt := 48) hx hb dX9_isRoom_41 (by decide) (fun c22 => (x_ne h21 (rg_k (by decide) : rg 0 0 0) (i_ne c22) (by decide)).elim) (fun c22 => ?_)
        have q22 : (i17 96 12).toInt = 0 := i_eq c22
        refine lv_iconst (v := 1) hx hb dX9_isRoom_44 (by decide) ?_
        refine lv_goto (tgt := 49) hx hb dX9_isRoom_45 (by decide) ?_
        have e23 : (i17 103 31) = (i 103 31) := (z_F hf17 rfl (by decide))
        have h24 : rg 0 5 (i17 103 31) := rg_of e23 h10
        exact hret 1 _ _ _ _ _ _ dX9_isRoom_49 hT hS (Or.inl ⟨hR17, hF17, rfl, hp17_0, h5, h24, hQ18_i⟩)
    ·
      have q8 : r6.toInt = a_c.toInt := i_eq c8
      have h25 : rg 6 6 r6 := t_eqx 6 6 h7 ha_c (i_eq c8) (by decide)
      have h26 : rg 6 6 (i 103 31) := rg_fo hf6_0 h25
      refine lv_aload_n hx hb dX9_isRoom_13 rfl (lv_at hl 0 rfl) ?_
      refine lv_iconst (v := 3) hx hb dX9_isRoom_14 (by decide) ?_
      refine e_Vv (As := [.int 3]) (rest := []) X Y hT hS (m_X9_fails hR (3) (rg_w (rg_k (by decide) : rg 3 3 3) (by decide) : rg 1 3 3) hp0) mk_X9_fails gm_1572 rfl rfl (by decide) hd_X9_fails ⟨rfl, rfl⟩ ⟨Nat.le_of_ble_eq_true rfl, Nat.le_of_ble_eq_true rfl⟩ hl.1 rfl (Nat.le_of_ble_eq_true rfl) dX9_isRoom_15 ⟨Nat.zero_le _, Nat.zero_le _⟩ (fun i27 g27 H locs hq hT hS => ?_)
      obtain ⟨hR27, hf27, hp27_0, hf27_0, hf27_1⟩ := hq
      have hF27 := Fr_tr hF hf27 (by decide)
      replace hp27_0 : (i27 96 7).toInt ≤ (i27 96 6).toInt := hp27_0
      have h28 : rg 1 3 (i27 96 12) := hf27_0
      have hQ29_i : prg i i27 := prg_tr (prg_rf i) hf27_1
      refine lv_iload_n hx hb dX9_isRoom_18 rfl (lv_at hl 1 rfl) ?_
      refine lv_if_eq (tgt := 33) hx hb dX9_isRoom_19 (by decide) (fun c30 => (x_eq h5 (rg_k (by decide) : rg 0 0 0) (i_eq c30) (by decide)).elim) (fun c30 => ?_)
      have q30 : ¬ a_a.toInt = 0 := i_ne c30
      refine lv_aload_n hx hb dX9_isRoom_22 rfl (lv_at hl 0 rfl) ?_
      refine r_geti X hT 96 12 fk_9_135 rfl rfl (by decide) dX9_isRoom_23 ?_
      refine lv_if_ne (tgt := 33) hx hb dX9_isRoom_26 (by decide) (fun c31 => ?_) (fun c31 => (x_eq h28 (rg_k (by decide) : rg 0 0 0) (i_eq c31) (by decide)).elim)
      have q31 : ¬ (i27 96 12).toInt = 0 := i_ne c31
      refine lv_iload_n hx hb dX9_isRoom_33 rfl (lv_at hl 1 rfl) ?_
      refine lv_if_eq (tgt := 48) hx hb dX9_isRoom_34 (by decide) (fun c32 => (x_eq h5 (rg_k (by decide) : rg 0 0 0) (i_eq c32) (by decide)).elim) (fun c32 => ?_)
      have q32 : ¬ a_a.toInt = 0 := i_ne c32
      refine lv_aload_n hx hb dX9_isRoom_37 rfl (lv_at hl 0 rfl) ?_
      refine r_geti X hT 96 12 fk_9_135 rfl rfl (by decide) dX9_isRoom_38 ?_
      refine lv_if_ne (tgt := 48) hx hb dX9_isRoom_41 (by decide) (fun c33 => ?_) (fun c33 => (x_eq h28 (rg_k (by decide) : rg 0 0 0) (i_eq c33) (by decide)).elim)
      have q33 : ¬ (i27 96 12).toInt = 0 := i_ne c33
      refine lv_iconst (v := 0) hx hb dX9_isRoom_48 (by decide) ?_
      exact hret 0 _ _ _ _ _ _ dX9_isRoom_49 hT hS (Or.inr (Or.inr ⟨hR27, hF27, rfl, hp27_0, h28, hQ29_i⟩))
set_option maxRecDepth 100000 in
set_option maxHeartbeats 4000000 in
theorem m_X9_takesWord {l : Launch} {D : va_G} {h : Nat → Nat} {cz : Nat → ClassId} {z : EZ} {i : Nat → Nat → Int32} {g : Nat → Nat → Int64} (hR : Rg rA i) (a_a : Int64) (hp0 : (i 96 7).toInt ≤ (i 96 6).toInt) : DtI l yX9_takesWord cX9_takesWord 3 (some .boolean) ({ frames := 2, cells := 0, slots := 0, locals := 44 } : Room) D h cz z i g [.ref (h 96), .long a_a] (fun r u => (Rg rA u.1 ∧ Fr [96] [96] i g u ∧ r = 1 ∧ ((u.1 96 7).toInt ≤ (u.1 96 6).toInt) ∧ prg i u.1 ∧ tok i u.1) ∨ (Rg rA u.1 ∧ Fr [96] [96] i g u ∧ r = 0 ∧ ((u.1 96 7).toInt ≤ (u.1 96 6).toInt) ∧ prg i u.1)) := by
  refine e_Z (fun v u hq => (hq.elim (fun hq => (Or.inr hq.2.2.1)) (fun hq => (Or.inl hq.2.2.1)))) pn_X9_takesWord (Nat.le_of_ble_eq_true rfl) ?_
  intro p e s m args below meth c ls Q X Y hret hT hl hS
  have hx := X.1
  have hb := X.2.1
  have hl : lv_has ls 3 [(0, .ref (h 96)), (1, .long a_a)] := hl
  have hF : Fr [96] [96] i g (i, g) := Fr_rf _ _ _ _
  refine lv_aload_n hx hb dX9_takesWord_0 rfl (lv_at hl 0 rfl) ?_
  refine lv_lload_n hx hb dX9_takesWord_1 rfl (lv_at hl 1 rfl) ?_
  refine e_Vi (As := [.long a_a]) (rest := []) X Y hT hS (m_X9_is hR a_a) mk_X9_is gm_1568 rfl rfl (by decide) hd_X9_is ⟨rfl, rfl⟩ ⟨Nat.le_of_ble_eq_true rfl, Nat.le_of_ble_eq_true rfl⟩ hl.1 rfl (Nat.le_of_ble_eq_true rfl) dX9_takesWord_2 ⟨Nat.zero_le _, Nat.zero_le _⟩ (fun r1 i1 g1 H locs hq hT hS => ?_)
  rcases hq with hq | hq
  ·
    obtain ⟨eh1, rfl, hf1_0, hf1_1⟩ := hq
    rw [(Prod.mk.inj eh1).1, (Prod.mk.inj eh1).2] at hT
    have h2 : rg 1 1 (i 96 8) := hf1_0
    have h3 : rg 0 0 (i 96 12) := hf1_1
    refine lv_if_ne (tgt := 10) hx hb dX9_takesWord_5 (by decide) (fun c4 => ?_) (fun c4 => (x_eq (rg_k (by decide) : rg 1 1 1) (rg_k (by decide) : rg 0 0 0) (i_eq c4) (by decide)).elim)
    refine lv_aload_n hx hb dX9_takesWord_10 rfl (lv_at hl 0 rfl) ?_
    refine e_Vv (As := []) (rest := []) X Y hT hS (m_X9_follows hR hp0) mk_X9_follows gm_1542 rfl rfl (by decide) hd_X9_follows ⟨rfl, rfl⟩ ⟨Nat.le_of_ble_eq_true rfl, Nat.le_of_ble_eq_true rfl⟩ hl.1 rfl (Nat.le_of_ble_eq_true rfl) dX9_takesWord_11 ⟨Nat.zero_le _, Nat.zero_le _⟩ (fun i5 g5 H locs hq hT hS => ?_)
    obtain ⟨hR5, hf5, hp5_0, hf5_0, hf5_1⟩ := hq
    have hF5 := Fr_tr hF hf5 (by decide)
    replace hp5_0 : (i5 96 7).toInt ≤ (i5 96 6).toInt := hp5_0
    have hQ6_i : prg i i5 := prg_tr (prg_rf i) hf5_0
    refine lv_iconst (v := 1) hx hb dX9_takesWord_14 (by decide) ?_
    have e7 : (i5 96 12) = (i 96 12) := hf5_1
    have h8 : rg 0 0 (i5 96 12) := rg_of e7 h3
    exact hret 1 _ _ _ _ _ _ dX9_takesWord_15 hT hS (Or.inl ⟨hR5, hF5, rfl, hp5_0, hQ6_i, (tok_1 h2)⟩)
  ·
    obtain ⟨eh1, rfl⟩ := hq
    rw [(Prod.mk.inj eh1).1, (Prod.mk.inj eh1).2] at hT
    refine lv_if_ne (tgt := 10) hx hb dX9_takesWord_5 (by decide) (fun c9 => (x_ne (rg_k (by decide) : rg 0 0 0) (rg_k (by decide) : rg 0 0 0) (i_ne c9) (by decide)).elim) (fun c9 => ?_)
    refine lv_iconst (v := 0) hx hb dX9_takesWord_8 (by decide) ?_
    exact hret 0 _ _ _ _ _ _ dX9_takesWord_9 hT hS (Or.inr ⟨hR, hF, rfl, hp0, (prg_rf i)⟩)
set_option maxRecDepth 100000 in
set_option maxHeartbeats 4000000 in
theorem m_X9_asks {l : Launch} {D : va_G} {h : Nat → Nat} {cz : Nat → ClassId} {z : EZ} {i : Nat → Nat → Int32} {g : Nat → Nat → Int64} (hR : Rg rA i) (a_a : Int64) (hp0 : (i 96 7).toInt ≤ (i 96 6).toInt) : DtV l yX9_asks cX9_asks 3 none ({ frames := 3, cells := 0, slots := 0, locals := 66 } : Room) D h cz z i g [.ref (h 96), .long a_a] (fun u => Rg rA u.1 ∧ Fr [96] [96] i g u ∧ ((u.1 96 7).toInt ≤ (u.1 96 6).toInt) ∧ prg i u.1 ∧ tok i u.1) := by
  refine e_V pn_X9_asks (Nat.le_of_ble_eq_true rfl) ?_
  intro p e s m args below meth c ls Q X Y hret hT hl hS
  have hx := X.1
  have hb := X.2.1
  have hl : lv_has ls 3 [(0, .ref (h 96)), (1, .long a_a)] := hl
  have hF : Fr [96] [96] i g (i, g) := Fr_rf _ _ _ _
  refine lv_aload_n hx hb dX9_asks_0 rfl (lv_at hl 0 rfl) ?_
  refine lv_lload_n hx hb dX9_asks_1 rfl (lv_at hl 1 rfl) ?_
  refine e_Vi (As := [.long a_a]) (rest := []) X Y hT hS (m_X9_takesWord hR a_a hp0) mk_X9_takesWord gm_1564 rfl rfl (by decide) hd_X9_takesWord ⟨rfl, rfl⟩ ⟨Nat.le_of_ble_eq_true rfl, Nat.le_of_ble_eq_true rfl⟩ hl.1 rfl (Nat.le_of_ble_eq_true rfl) dX9_asks_2 ⟨Nat.zero_le _, Nat.zero_le _⟩ (fun r1 i1 g1 H locs hq hT hS => ?_)
  rcases hq with hq | hq
  ·
    obtain ⟨hR1, hf1, rfl, hp1_0, hf1_0, hf1_1⟩ := hq
    have hF1 := Fr_tr hF hf1 (by decide)
    replace hp1_0 : (i1 96 7).toInt ≤ (i1 96 6).toInt := hp1_0
    have hQ2_i : prg i i1 := prg_tr (prg_rf i) hf1_0
    refine lv_if_ne (tgt := 13) hx hb dX9_asks_5 (by decide) (fun c3 => ?_) (fun c3 => (x_eq (rg_k (by decide) : rg 1 1 1) (rg_k (by decide) : rg 0 0 0) (i_eq c3) (by decide)).elim)
    exact hret _ _ _ _ _ _ dX9_asks_13 hT hS ⟨hR1, hF1, hp1_0, hQ2_i, hf1_1⟩
  ·
    obtain ⟨hR1, hf1, rfl, hp1_0, hf1_0⟩ := hq
    have hF1 := Fr_tr hF hf1 (by decide)
    replace hp1_0 : (i1 96 7).toInt ≤ (i1 96 6).toInt := hp1_0
    have hQ4_i : prg i i1 := prg_tr (prg_rf i) hf1_0
    refine lv_if_ne (tgt := 13) hx hb dX9_asks_5 (by decide) (fun c5 => (x_ne (rg_k (by decide) : rg 0 0 0) (rg_k (by decide) : rg 0 0 0) (i_ne c5) (by decide)).elim) (fun c5 => ?_)
    refine lv_aload_n hx hb dX9_asks_8 rfl (lv_at hl 0 rfl) ?_
    refine lv_iconst (v := 1) hx hb dX9_asks_9 (by decide) ?_
    refine e_Vv (As := [.int 1]) (rest := []) X Y hT hS (m_X9_fails hR1 (1) (rg_w (rg_k (by decide) : rg 1 1 1) (by decide) : rg 1 3 1) hp1_0) mk_X9_fails gm_1572 rfl rfl (by decide) hd_X9_fails ⟨rfl, rfl⟩ ⟨Nat.le_of_ble_eq_true rfl, Nat.le_of_ble_eq_true rfl⟩ hl.1 rfl (Nat.le_of_ble_eq_true rfl) dX9_asks_10 ⟨Nat.zero_le _, Nat.zero_le _⟩ (fun i6 g6 H locs hq hT hS => ?_)
    obtain ⟨hR6, hf6, hp6_0, hf6_0, hf6_1⟩ := hq
    have hF6 := Fr_tr hF1 hf6 (by decide)
    replace hp6_0 : (i6 96 7).toInt ≤ (i6 96 6).toInt := hp6_0
    have h7 : rg 1 3 (i6 96 12) := hf6_0
    have hQ8_i : prg i i6 := prg_tr hQ4_i hf6_1
    exact hret _ _ _ _ _ _ dX9_asks_13 hT hS ⟨hR6, hF6, hp6_0, hQ8_i, (tok_b h7 (by decide))⟩
set_option maxRecDepth 100000 in
set_option maxHeartbeats 4000000 in
theorem m_X9_number {l : Launch} {D : va_G} {h : Nat → Nat} {cz : Nat → ClassId} {z : EZ} {i : Nat → Nat → Int32} {g : Nat → Nat → Int64} (hR : Rg rA i) (a_a : Int32) (a_b : Int32) (hp0 : (i 96 7).toInt ≤ (i 96 6).toInt) : DtI l yX9_number cX9_number 4 (some .int) ({ frames := 2, cells := 0, slots := 0, locals := 44 } : Room) D h cz z i g [.ref (h 96), .int a_a, .int a_b] (fun r u => Rg rA u.1 ∧ Fr [96] [96] i g u ∧ ((u.1 96 7).toInt ≤ (u.1 96 6).toInt) ∧ prg i u.1 ∧ (a_a.toInt ≤ r.toInt ∧ (r.toInt ≤ a_b.toInt ∨ r.toInt = a_a.toInt))) := by
  refine e_I pn_X9_number (Nat.le_of_ble_eq_true rfl) ?_
  intro p e s m args below meth c ls Q X Y hret hT hl hS
  have hx := X.1
  have hb := X.2.1
  have hl : lv_has ls 4 [(0, .ref (h 96)), (1, .int a_a), (2, .int a_b)] := hl
  have hF : Fr [96] [96] i g (i, g) := Fr_rf _ _ _ _
  refine lv_aload_n hx hb dX9_number_0 rfl (lv_at hl 0 rfl) ?_
  refine r_geti X hT 96 12 fk_9_135 rfl rfl (by decide) dX9_number_1 ?_
  refine lv_if_eq (tgt := 9) hx hb dX9_number_4 (by decide) (fun c1 => ?_) (fun c1 => ?_)
  ·
    have q1 : (i 96 12).toInt = 0 := i_eq c1
    have h2 : rg 0 0 (i 96 12) := t_eqx 0 0 (Rg_at hR 96 12 0 3 (by decide) rfl) (rg_k (by decide) : rg 0 0 0) (i_eq c1) (by decide)
    refine lv_aload_n hx hb dX9_number_9 rfl (lv_at hl 0 rfl) ?_
    refine r_geti X hT 96 8 fk_9_124 rfl rfl (by decide) dX9_number_10 ?_
    refine lv_iconst (v := 2) hx hb dX9_number_13 (by decide) ?_
    refine lv_icmp_eq (tgt := 24) hx hb dX9_number_14 (by decide) (fun c3 => ?_) (fun c3 => ?_)
    ·
      have q3 : (i 96 8).toInt = 2 := i_eq c3
      have h4 : rg 2 2 (i 96 8) := t_eqx 2 2 (rg_top (i 96 8)) (rg_k (by decide) : rg 2 2 2) (i_eq c3) (by decide)
      refine lv_aload_n hx hb dX9_number_24 rfl (lv_at hl 0 rfl) ?_
      refine r_geti X hT 96 10 fk_9_117 rfl rfl (by decide) dX9_number_25 ?_
      refine q_i2l hx hb dX9_number_28 (fun y5 ey5 => ?_)
      obtain ⟨hy5, ay5⟩ := rg_i2l ey5 (rg_top (i 96 10))
      refine lv_iload_n hx hb dX9_number_29 rfl (lv_at hl 1 rfl) ?_
      refine q_i2l hx hb dX9_number_30 (fun y6 ey6 => ?_)
      obtain ⟨hy6, ay6⟩ := rg_i2l ey6 (rg_top a_a)
      refine lv_iload_n hx hb dX9_number_31 rfl (lv_at hl 2 rfl) ?_
      refine q_i2l hx hb dX9_number_32 (fun y7 ey7 => ?_)
      obtain ⟨hy7, ay7⟩ := rg_i2l ey7 (rg_top a_b)
      refine e_Si (As := [.long y5, .long y6, .long y7]) (rest := []) X Y hT hS (m_in y5 y6 y7) sk_X9_in gm_1496 hd_X9_in ⟨rfl, rfl⟩ ⟨Nat.le_of_ble_eq_true rfl, Nat.le_of_ble_eq_true rfl⟩ hl.1 rfl (Nat.le_of_ble_eq_true rfl) dX9_number_33 ⟨Nat.zero_le _, Nat.zero_le _⟩ (fun r8 i8 g8 H locs hq hT hS => ?_)
      rcases hq with hq | hq
      ·
        obtain ⟨eh8, rfl, hf8_0⟩ := hq
        rw [(Prod.mk.inj eh8).1, (Prod.mk.inj eh8).2] at hT
        replace hf8_0 : y6.toInt ≤ y5.toInt ∧ y5.toInt ≤ y7.toInt := hf8_0
        refine lv_if_ne (tgt := 46) hx hb dX9_number_36 (by decide) (fun c9 => ?_) (fun c9 => (x_eq (rg_k (by decide) : rg 1 1 1) (rg_k (by decide) : rg 0 0 0) (i_eq c9) (by decide)).elim)
        refine lv_aload_n hx hb dX9_number_46 rfl (lv_at hl 0 rfl) ?_
        refine r_geti X hT 96 10 fk_9_117 rfl rfl (by decide) dX9_number_47 ?_
        refine lv_istore_n (lv' := [(3, .int (i 96 10)), (0, .ref (h 96)), (1, .int a_a), (2, .int a_b)]) hx hb dX9_number_50 rfl hl (by decide) rfl (fun ls hl => ?_)
        refine lv_aload_n hx hb dX9_number_51 rfl (lv_at hl 1 rfl) ?_
        refine e_Vv (As := []) (rest := []) X Y hT hS (m_X9_follows hR hp0) mk_X9_follows gm_1542 rfl rfl (by decide) hd_X9_follows ⟨rfl, rfl⟩ ⟨Nat.le_of_ble_eq_true rfl, Nat.le_of_ble_eq_true rfl⟩ hl.1 rfl (Nat.le_of_ble_eq_true rfl) dX9_number_52 ⟨Nat.zero_le _, Nat.zero_le _⟩ (fun i10 g10 H locs hq hT hS => ?_)
        obtain ⟨hR10, hf10, hp10_0, hf10_0, hf10_1⟩ := hq
        have hF10 := Fr_tr hF hf10 (by decide)
        replace hp10_0 : (i10 96 7).toInt ≤ (i10 96 6).toInt := hp10_0
        have hQ11_i : prg i i10 := prg_tr (prg_rf i) hf10_0
        refine lv_iload_n hx hb dX9_number_55 rfl (lv_at hl 0 rfl) ?_
        exact hret (i 96 10) _ _ _ _ _ _ dX9_number_56 hT hS ⟨hR10, hF10, hp10_0, hQ11_i, (by omega)⟩
      ·
        obtain ⟨eh8, rfl, hf8_0⟩ := hq
        rw [(Prod.mk.inj eh8).1, (Prod.mk.inj eh8).2] at hT
        replace hf8_0 : y5.toInt < y6.toInt ∨ y7.toInt < y5.toInt := hf8_0
        refine lv_if_ne (tgt := 46) hx hb dX9_number_36 (by decide) (fun c12 => (x_ne (rg_k (by decide) : rg 0 0 0) (rg_k (by decide) : rg 0 0 0) (i_ne c12) (by decide)).elim) (fun c12 => ?_)
        refine lv_aload_n hx hb dX9_number_39 rfl (lv_at hl 0 rfl) ?_
        refine lv_iconst (v := 2) hx hb dX9_number_40 (by decide) ?_
        refine e_Vv (As := [.int 2]) (rest := []) X Y hT hS (m_X9_fails hR (2) (rg_w (rg_k (by decide) : rg 2 2 2) (by decide) : rg 1 3 2) hp0) mk_X9_fails gm_1572 rfl rfl (by decide) hd_X9_fails ⟨rfl, rfl⟩ ⟨Nat.le_of_ble_eq_true rfl, Nat.le_of_ble_eq_true rfl⟩ hl.1 rfl (Nat.le_of_ble_eq_true rfl) dX9_number_41 ⟨Nat.zero_le _, Nat.zero_le _⟩ (fun i13 g13 H locs hq hT hS => ?_)
        obtain ⟨hR13, hf13, hp13_0, hf13_0, hf13_1⟩ := hq
        have hF13 := Fr_tr hF hf13 (by decide)
        replace hp13_0 : (i13 96 7).toInt ≤ (i13 96 6).toInt := hp13_0
        have h14 : rg 1 3 (i13 96 12) := hf13_0
        have hQ15_i : prg i i13 := prg_tr (prg_rf i) hf13_1
        refine lv_iload_n hx hb dX9_number_44 rfl (lv_at hl 1 rfl) ?_
        exact hret a_a _ _ _ _ _ _ dX9_number_45 hT hS ⟨hR13, hF13, hp13_0, hQ15_i, (by omega)⟩
    ·
      have q3 : ¬ (i 96 8).toInt = 2 := i_ne c3
      refine lv_aload_n hx hb dX9_number_17 rfl (lv_at hl 0 rfl) ?_
      refine lv_iconst (v := 1) hx hb dX9_number_18 (by decide) ?_
      refine e_Vv (As := [.int 1]) (rest := []) X Y hT hS (m_X9_fails hR (1) (rg_w (rg_k (by decide) : rg 1 1 1) (by decide) : rg 1 3 1) hp0) mk_X9_fails gm_1572 rfl rfl (by decide) hd_X9_fails ⟨rfl, rfl⟩ ⟨Nat.le_of_ble_eq_true rfl, Nat.le_of_ble_eq_true rfl⟩ hl.1 rfl (Nat.le_of_ble_eq_true rfl) dX9_number_19 ⟨Nat.zero_le _, Nat.zero_le _⟩ (fun i16 g16 H locs hq hT hS => ?_)
      obtain ⟨hR16, hf16, hp16_0, hf16_0, hf16_1⟩ := hq
      have hF16 := Fr_tr hF hf16 (by decide)
      replace hp16_0 : (i16 96 7).toInt ≤ (i16 96 6).toInt := hp16_0
      have h17 : rg 1 3 (i16 96 12) := hf16_0
      have hQ18_i : prg i i16 := prg_tr (prg_rf i) hf16_1
      refine lv_iload_n hx hb dX9_number_22 rfl (lv_at hl 1 rfl) ?_
      exact hret a_a _ _ _ _ _ _ dX9_number_23 hT hS ⟨hR16, hF16, hp16_0, hQ18_i, (by omega)⟩
  ·
    have q1 : ¬ (i 96 12).toInt = 0 := i_ne c1
    have h19 : rg 1 3 (i 96 12) := t_nelo 1 (Rg_at hR 96 12 0 3 (by decide) rfl) (rg_k (by decide) : rg 0 0 0) (i_ne c1) (by decide)
    refine lv_iload_n hx hb dX9_number_7 rfl (lv_at hl 1 rfl) ?_
    exact hret a_a _ _ _ _ _ _ dX9_number_8 hT hS ⟨hR, hF, hp0, (prg_rf i), (by omega)⟩
set_option maxRecDepth 100000 in
set_option maxHeartbeats 4000000 in
theorem m_X9_number_ {l : Launch} {D : va_G} {h : Nat → Nat} {cz : Nat → ClassId} {z : EZ} {i : Nat → Nat → Int32} {g : Nat → Nat → Int64} (hR : Rg rA i) (a_a : Int64) (a_b : Int32) (a_c : Int32) (hp0 : (i 96 7).toInt ≤ (i 96 6).toInt) : DtI l yX9_number_ cX9_number_ 5 (some .int) ({ frames := 4, cells := 0, slots := 0, locals := 88 } : Room) D h cz z i g [.ref (h 96), .long a_a, .int a_b, .int a_c] (fun r u => Rg rA u.1 ∧ Fr [96] [96] i g u ∧ ((u.1 96 7).toInt ≤ (u.1 96 6).toInt) ∧ prg i u.1 ∧ (a_b.toInt ≤ r.toInt ∧ (r.toInt ≤ a_c.toInt ∨ r.toInt = a_b.toInt))) := by
  refine e_I pn_X9_number_ (Nat.le_of_ble_eq_true rfl) ?_
  intro p e s m args below meth c ls Q X Y hret hT hl hS
  have hx := X.1
  have hb := X.2.1
  have hl : lv_has ls 5 [(0, .ref (h 96)), (1, .long a_a), (3, .int a_b), (4, .int a_c)] := hl
  have hF : Fr [96] [96] i g (i, g) := Fr_rf _ _ _ _
  refine lv_aload_n hx hb dX9_number__0 rfl (lv_at hl 0 rfl) ?_
  refine lv_lload_n hx hb dX9_number__1 rfl (lv_at hl 1 rfl) ?_
  refine e_Vv (As := [.long a_a]) (rest := []) X Y hT hS (m_X9_asks hR a_a hp0) mk_X9_asks gm_1560 rfl rfl (by decide) hd_X9_asks ⟨rfl, rfl⟩ ⟨Nat.le_of_ble_eq_true rfl, Nat.le_of_ble_eq_true rfl⟩ hl.1 rfl (Nat.le_of_ble_eq_true rfl) dX9_number__2 ⟨Nat.zero_le _, Nat.zero_le _⟩ (fun i1 g1 H locs hq hT hS => ?_)
  obtain ⟨hR1, hf1, hp1_0, hf1_0, hf1_1⟩ := hq
  have hF1 := Fr_tr hF hf1 (by decide)
  replace hp1_0 : (i1 96 7).toInt ≤ (i1 96 6).toInt := hp1_0
  have hQ2_i : prg i i1 := prg_tr (prg_rf i) hf1_0
  refine lv_aload_n hx hb dX9_number__5 rfl (lv_at hl 0 rfl) ?_
  refine lv_iload_n hx hb dX9_number__6 rfl (lv_at hl 2 rfl) ?_
  refine lv_iload hx hb dX9_number__7 (lv_at hl 3 rfl) ?_
  refine e_Vi (As := [.int a_b, .int a_c]) (rest := []) X Y hT hS (m_X9_number hR1 a_b a_c hp1_0) mk_X9_number gm_1581 rfl rfl (by decide) hd_X9_number ⟨rfl, rfl⟩ ⟨Nat.le_of_ble_eq_true rfl, Nat.le_of_ble_eq_true rfl⟩ hl.1 rfl (Nat.le_of_ble_eq_true rfl) dX9_number__9 ⟨Nat.zero_le _, Nat.zero_le _⟩ (fun r3 i3 g3 H locs hq hT hS => ?_)
  obtain ⟨hR3, hf3, hp3_0, hf3_0, hf3_1⟩ := hq
  have hF3 := Fr_tr hF1 hf3 (by decide)
  replace hp3_0 : (i3 96 7).toInt ≤ (i3 96 6).toInt := hp3_0
  have hQ4_i : prg i i3 := prg_tr hQ2_i hf3_0
  have hK5 : tok i i3 := tok_tr hf1_1 hf3_0
  replace hf3_1 : a_b.toInt ≤ r3.toInt ∧ (r3.toInt ≤ a_c.toInt ∨ r3.toInt = a_b.toInt) := hf3_1
  have h6 : rg (-2147483648) 2147483647 r3 := ⟨by have := (rg_top a_b).1; have := (rg_top a_b).2; have := (rg_top a_c).1; have := (rg_top a_c).2; omega, by have := (rg_top a_b).1; have := (rg_top a_b).2; have := (rg_top a_c).1; have := (rg_top a_c).2; omega⟩
  exact hret r3 _ _ _ _ _ _ dX9_number__12 hT hS ⟨hR3, hF3, hp3_0, hQ4_i, (by have := h6.1; have := h6.2; omega)⟩
set_option maxRecDepth 100000 in
set_option maxHeartbeats 4000000 in
theorem m_X9_tellsOf_3_1t6 {l : Launch} {D : va_G} {h : Nat → Nat} {cz : Nat → ClassId} {z : EZ} {i : Nat → Nat → Int32} {g : Nat → Nat → Int64} (hR : Rg rA i) (a_a : Int32) (a_b : Int32) (ha_a : rg 3 3 a_a) (ha_b : rg 1 6 a_b) : DtV l yX9_tellsOf cX9_tellsOf 3 none ({ frames := 0, cells := 0, slots := 0, locals := 0 } : Room) D h cz z i g [.ref (h 96), .int a_a, .int a_b] (fun u => Rg rA u.1 ∧ Fr [103] [] i g u) := by
  refine e_V pn_X9_tellsOf (Nat.le_of_ble_eq_true rfl) ?_
  intro p e s m args below meth c ls Q X Y hret hT hl hS
  have hx := X.1
  have hb := X.2.1
  have hl : lv_has ls 3 [(0, .ref (h 96)), (1, .int a_a), (2, .int a_b)] := hl
  have hF : Fr [103] [] i g (i, g) := Fr_rf _ _ _ _
  refine lv_aload_n hx hb dX9_tellsOf_0 rfl (lv_at hl 0 rfl) ?_
  refine r_getr X hT 96 17 103 fk_9_34 rfl rfl (by decide) dX9_tellsOf_1 ?_
  refine lv_bipush (v := 28) hx hb dX9_tellsOf_4 (by decide) ?_
  refine lv_iload_n hx hb dX9_tellsOf_6 rfl (lv_at hl 1 rfl) ?_
  refine q_iadd hx hb dX9_tellsOf_7 (fun x1 ex1 => ?_)
  obtain ⟨hx1, ax1⟩ := rg_add 31 31 ex1 (rg_k (by decide) : rg 28 28 28) ha_a (by decide)
  replace ax1 : x1.toInt = 28 + a_a.toInt := ax1
  refine lv_iload_n hx hb dX9_tellsOf_8 rfl (lv_at hl 2 rfl) ?_
  refine r_iastc X hT hS 103 31 rfl (by decide) (v_in hx1 (by decide)) (cl_c hx1 31 rfl (by decide)) dX9_tellsOf_9 (fun H locs i2 ei2 hT hS => ?_)
  have hR2 := Rg_put hR ei2 0 6 rfl ha_b (by decide)
  have hF2 := Fr_puti hF ei2 (by decide)
  exact hret _ _ _ _ _ _ dX9_tellsOf_10 hT hS ⟨hR2, hF2⟩
set_option maxRecDepth 100000 in
set_option maxHeartbeats 4000000 in
theorem m_X9_partLine {l : Launch} {D : va_G} {h : Nat → Nat} {cz : Nat → ClassId} {z : EZ} {i : Nat → Nat → Int32} {g : Nat → Nat → Int64} (hR : Rg rA i) (hs103_31 : rg 0 5 (i 103 31)) (hp0 : (i 96 7).toInt ≤ (i 96 6).toInt) : DtV l yX9_partLine cX9_partLine 2 none ({ frames := 5, cells := 0, slots := 0, locals := 112 } : Room) D h cz z i g [.ref (h 96)] (fun u => Rg rA u.1 ∧ Fr [96, 103, 104] [96] i g u ∧ ((u.1 96 7).toInt ≤ (u.1 96 6).toInt) ∧ prg i u.1) := by
  refine e_V pn_X9_partLine (Nat.le_of_ble_eq_true rfl) ?_
  intro p e s m args below meth c ls Q X Y hret hT hl hS
  have hx := X.1
  have hb := X.2.1
  have hl : lv_has ls 2 [(0, .ref (h 96))] := hl
  have hF : Fr [96, 103, 104] [96] i g (i, g) := Fr_rf _ _ _ _
  refine lv_iconst (v := 3) hx hb dX9_partLine_0 (by decide) ?_
  refine lv_bipush (v := 24) hx hb dX9_partLine_1 (by decide) ?_
  refine lv_aload_n hx hb dX9_partLine_3 rfl (lv_at hl 0 rfl) ?_
  refine lv_iconst (v := 3) hx hb dX9_partLine_4 (by decide) ?_
  refine e_Vi (As := [.int 3]) (rest := [.int 24, .int 3]) X Y hT hS (m_X9_hasRead_3 hR (3) (rg_k (by decide) : rg 3 3 3)) mk_X9_hasRead gm_1596 rfl rfl (by decide) hd_X9_hasRead ⟨rfl, rfl⟩ ⟨Nat.le_of_ble_eq_true rfl, Nat.le_of_ble_eq_true rfl⟩ hl.1 rfl (Nat.le_of_ble_eq_true rfl) dX9_partLine_5 ⟨Nat.zero_le _, Nat.zero_le _⟩ (fun r1 i1 g1 H locs hq hT hS => ?_)
  obtain ⟨eh1, hr1, hf1_0⟩ := hq
  rw [(Prod.mk.inj eh1).1, (Prod.mk.inj eh1).2] at hT
  replace hf1_0 : r1 = (i 103 31) := hf1_0
  have h2 : rg 0 5 r1 := rg_of hf1_0 hs103_31
  refine q_iadd hx hb dX9_partLine_8 (fun x3 ex3 => ?_)
  obtain ⟨hx3, ax3⟩ := rg_add 24 29 ex3 (rg_k (by decide) : rg 24 24 24) h2 (by decide)
  replace ax3 : x3.toInt = 24 + r1.toInt := ax3
  refine q_imul hx hb dX9_partLine_9 (fun x4 ex4 => ?_)
  obtain ⟨hx4, ax4⟩ := rg_mul 72 87 ex4 (rg_k (by decide) : rg 3 3 3) hx3 (by decide)
  replace ax4 : x4.toInt = 3 * x3.toInt := ax4
  refine lv_istore_n (lv' := [(1, .int x4), (0, .ref (h 96))]) hx hb dX9_partLine_10 rfl hl (by decide) rfl (fun ls hl => ?_)
  refine lv_aload_n hx hb dX9_partLine_11 rfl (lv_at hl 1 rfl) ?_
  refine r_getr X hT 96 18 104 fk_9_37 rfl rfl (by decide) dX9_partLine_12 ?_
  refine lv_iload_n hx hb dX9_partLine_15 rfl (lv_at hl 0 rfl) ?_
  refine lv_aload_n hx hb dX9_partLine_16 rfl (lv_at hl 1 rfl) ?_
  refine lv_ldc2 (v := 1753015) hx hb X.2.2.2.1 (X.2.2.2.2.1 _ gm_1604) dX9_partLine_17 ?_
  refine lv_iconst (v := 0) hx hb dX9_partLine_20 (by decide) ?_
  refine lv_bipush (v := 60) hx hb dX9_partLine_21 (by decide) ?_
  refine e_Vi (As := [.long 1753015, .int 0, .int 60]) (rest := [.int x4, .ref (h 104)]) X Y hT hS (m_X9_number_ hR (1753015) (0) (60) hp0) mk_X9_number_ gm_1577 rfl rfl (by decide) hd_X9_number_ ⟨rfl, rfl⟩ ⟨Nat.le_of_ble_eq_true rfl, Nat.le_of_ble_eq_true rfl⟩ hl.1 rfl (Nat.le_of_ble_eq_true rfl) dX9_partLine_23 ⟨Nat.zero_le _, Nat.zero_le _⟩ (fun r5 i5 g5 H locs hq hT hS => ?_)
  obtain ⟨hR5, hf5, hp5_0, hf5_0, hf5_1⟩ := hq
  have hF5 := Fr_tr hF hf5 (by decide)
  replace hp5_0 : (i5 96 7).toInt ≤ (i5 96 6).toInt := hp5_0
  have hQ6_i : prg i i5 := prg_tr (prg_rf i) hf5_0
  replace hf5_1 : 0 ≤ r5.toInt ∧ (r5.toInt ≤ 60 ∨ r5.toInt = 0) := hf5_1
  have h7 : rg 0 60 r5 := ⟨by omega, by omega⟩
  refine r_iast X hT hS 104 rfl (by decide) (v_in hx4 (by decide)) dX9_partLine_26 (fun H locs i8 ei8 hT hS => ?_)
  have hR8 := Rg_put hR5 ei8 0 60 rfl h7 (by decide)
  have hF8 := Fr_puti hF5 ei8 (by decide)
  have hP8 : (i8 96 7).toInt ≤ (i8 96 6).toInt := by rw [z_j ei8 rfl (by decide), z_j ei8 rfl (by decide)]; exact hp5_0
  have hQ8_i : prg i i8 := prg_j hQ6_i ei8 (by decide)
  refine lv_aload_n hx hb dX9_partLine_27 rfl (lv_at hl 1 rfl) ?_
  refine r_getr X hT 96 18 104 fk_9_37 rfl rfl (by decide) dX9_partLine_28 ?_
  refine lv_iload_n hx hb dX9_partLine_31 rfl (lv_at hl 0 rfl) ?_
  refine lv_iconst (v := 1) hx hb dX9_partLine_32 (by decide) ?_
  refine q_iadd hx hb dX9_partLine_33 (fun x9 ex9 => ?_)
  obtain ⟨hx9, ax9⟩ := rg_add 73 88 ex9 hx4 (rg_k (by decide) : rg 1 1 1) (by decide)
  replace ax9 : x9.toInt = x4.toInt + 1 := ax9
  refine lv_aload_n hx hb dX9_partLine_34 rfl (lv_at hl 1 rfl) ?_
  refine lv_ldc2 (v := 10819243) hx hb X.2.2.2.1 (X.2.2.2.2.1 _ gm_1605) dX9_partLine_35 ?_
  refine lv_iconst (v := 0) hx hb dX9_partLine_38 (by decide) ?_
  refine lv_bipush (v := 9) hx hb dX9_partLine_39 (by decide) ?_
  refine e_Vi (As := [.long 10819243, .int 0, .int 9]) (rest := [.int x9, .ref (h 104)]) X Y hT hS (m_X9_number_ hR8 (10819243) (0) (9) hP8) mk_X9_number_ gm_1577 rfl rfl (by decide) hd_X9_number_ ⟨rfl, rfl⟩ ⟨Nat.le_of_ble_eq_true rfl, Nat.le_of_ble_eq_true rfl⟩ hl.1 rfl (Nat.le_of_ble_eq_true rfl) dX9_partLine_41 ⟨Nat.zero_le _, Nat.zero_le _⟩ (fun r10 i10 g10 H locs hq hT hS => ?_)
  obtain ⟨hR10, hf10, hp10_0, hf10_0, hf10_1⟩ := hq
  have hF10 := Fr_tr hF8 hf10 (by decide)
  replace hp10_0 : (i10 96 7).toInt ≤ (i10 96 6).toInt := hp10_0
  have hQ11_i : prg i i10 := prg_tr hQ8_i hf10_0
  replace hf10_1 : 0 ≤ r10.toInt ∧ (r10.toInt ≤ 9 ∨ r10.toInt = 0) := hf10_1
  have h12 : rg 0 9 r10 := ⟨by omega, by omega⟩
  refine r_iast X hT hS 104 rfl (by decide) (v_in hx9 (by decide)) dX9_partLine_44 (fun H locs i13 ei13 hT hS => ?_)
  have hR13 := Rg_put hR10 ei13 0 60 rfl h12 (by decide)
  have hF13 := Fr_puti hF10 ei13 (by decide)
  have hP13 : (i13 96 7).toInt ≤ (i13 96 6).toInt := by rw [z_j ei13 rfl (by decide), z_j ei13 rfl (by decide)]; exact hp10_0
  have hQ13_i : prg i i13 := prg_j hQ11_i ei13 (by decide)
  refine lv_aload_n hx hb dX9_partLine_45 rfl (lv_at hl 1 rfl) ?_
  refine r_getr X hT 96 18 104 fk_9_37 rfl rfl (by decide) dX9_partLine_46 ?_
  refine lv_iload_n hx hb dX9_partLine_49 rfl (lv_at hl 0 rfl) ?_
  refine lv_iconst (v := 2) hx hb dX9_partLine_50 (by decide) ?_
  refine q_iadd hx hb dX9_partLine_51 (fun x14 ex14 => ?_)
  obtain ⟨hx14, ax14⟩ := rg_add 74 89 ex14 hx4 (rg_k (by decide) : rg 2 2 2) (by decide)
  replace ax14 : x14.toInt = x4.toInt + 2 := ax14
  refine lv_aload_n hx hb dX9_partLine_52 rfl (lv_at hl 1 rfl) ?_
  refine r_geti X hT 96 12 fk_9_135 rfl rfl (by decide) dX9_partLine_53 ?_
  refine lv_if_ne (tgt := 82) hx hb dX9_partLine_56 (by decide) (fun c15 => ?_) (fun c15 => ?_)
  ·
    have q15 : ¬ (i13 96 12).toInt = 0 := i_ne c15
    have h16 : rg 1 3 (i13 96 12) := t_nelo 1 (Rg_at hR13 96 12 0 3 (by decide) rfl) (rg_k (by decide) : rg 0 0 0) (i_ne c15) (by decide)
    refine lv_iconst (v := 0) hx hb dX9_partLine_82 (by decide) ?_
    refine r_iast X hT hS 104 rfl (by decide) (v_in hx14 (by decide)) dX9_partLine_83 (fun H locs i17 ei17 hT hS => ?_)
    have hR17 := Rg_put hR13 ei17 0 60 rfl (rg_k (by decide) : rg 0 0 0) (by decide)
    have hF17 := Fr_puti hF13 ei17 (by decide)
    have hP17 : (i17 96 7).toInt ≤ (i17 96 6).toInt := by rw [z_j ei17 rfl (by decide), z_j ei17 rfl (by decide)]; exact hP13
    have hQ17_i : prg i i17 := prg_j hQ13_i ei17 (by decide)
    refine lv_aload_n hx hb dX9_partLine_84 rfl (lv_at hl 1 rfl) ?_
    refine lv_iconst (v := 3) hx hb dX9_partLine_85 (by decide) ?_
    refine lv_aload_n hx hb dX9_partLine_86 rfl (lv_at hl 1 rfl) ?_
    refine lv_iconst (v := 3) hx hb dX9_partLine_87 (by decide) ?_
    refine e_Vi (As := [.int 3]) (rest := [.int 3, .ref (h 96)]) X Y hT hS (m_X9_hasRead_3 hR17 (3) (rg_k (by decide) : rg 3 3 3)) mk_X9_hasRead gm_1596 rfl rfl (by decide) hd_X9_hasRead ⟨rfl, rfl⟩ ⟨Nat.le_of_ble_eq_true rfl, Nat.le_of_ble_eq_true rfl⟩ hl.1 rfl (Nat.le_of_ble_eq_true rfl) dX9_partLine_88 ⟨Nat.zero_le _, Nat.zero_le _⟩ (fun r18 i18 g18 H locs hq hT hS => ?_)
    obtain ⟨eh18, hr18, hf18_0⟩ := hq
    rw [(Prod.mk.inj eh18).1, (Prod.mk.inj eh18).2] at hT
    have e19 : (i17 103 31) = (i 103 31) := (z_j ei17 (z_j ei13 (z_F hf10 (z_j ei8 (z_F hf5 rfl (by decide)) (by decide)) (by decide)) (by decide)) (by decide))
    have h20 : rg 0 5 (i17 103 31) := rg_of e19 hs103_31
    replace hf18_0 : r18 = (i17 103 31) := hf18_0
    have h21 : rg 0 5 r18 := rg_of hf18_0 h20
    refine lv_iconst (v := 1) hx hb dX9_partLine_91 (by decide) ?_
    refine q_iadd hx hb dX9_partLine_92 (fun x22 ex22 => ?_)
    obtain ⟨hx22, ax22⟩ := rg_add 1 6 ex22 h21 (rg_k (by decide) : rg 1 1 1) (by decide)
    replace ax22 : x22.toInt = r18.toInt + 1 := ax22
    refine e_Vv (As := [.int 3, .int x22]) (rest := []) X Y hT hS (m_X9_tellsOf_3_1t6 hR17 (3) x22 (rg_k (by decide) : rg 3 3 3) hx22) mk_X9_tellsOf gm_1534 rfl rfl (by decide) hd_X9_tellsOf ⟨rfl, rfl⟩ ⟨Nat.le_of_ble_eq_true rfl, Nat.le_of_ble_eq_true rfl⟩ hl.1 rfl (Nat.le_of_ble_eq_true rfl) dX9_partLine_93 ⟨Nat.zero_le _, Nat.zero_le _⟩ (fun i23 g23 H locs hq hT hS => ?_)
    obtain ⟨hR23, hf23⟩ := hq
    have hF23 := Fr_tr hF17 hf23 (by decide)
    have hP23 : (i23 96 7).toInt ≤ (i23 96 6).toInt := by rw [show i23 96 = _ from (hf23).1 96 (by decide)]; exact hP17
    have hQ23_i : prg i i23 := prg_f hQ17_i hf23 (by decide)
    exact hret _ _ _ _ _ _ dX9_partLine_96 hT hS ⟨hR23, hF23, hP23, hQ23_i⟩
  ·
    have q15 : (i13 96 12).toInt = 0 := i_eq c15
    have h24 : rg 0 0 (i13 96 12) := t_eqx 0 0 (Rg_at hR13 96 12 0 3 (by decide) rfl) (rg_k (by decide) : rg 0 0 0) (i_eq c15) (by decide)
    refine lv_aload_n hx hb dX9_partLine_59 rfl (lv_at hl 1 rfl) ?_
    refine lv_ldc2 (v := 10497768) hx hb X.2.2.2.1 (X.2.2.2.2.1 _ gm_1606) dX9_partLine_60 ?_
    refine e_Vi (As := [.long 10497768]) (rest := [.int x14, .ref (h 104)]) X Y hT hS (m_X9_is hR13 (10497768)) mk_X9_is gm_1568 rfl rfl (by decide) hd_X9_is ⟨rfl, rfl⟩ ⟨Nat.le_of_ble_eq_true rfl, Nat.le_of_ble_eq_true rfl⟩ hl.1 rfl (Nat.le_of_ble_eq_true rfl) dX9_partLine_63 ⟨Nat.zero_le _, Nat.zero_le _⟩ (fun r25 i25 g25 H locs hq hT hS => ?_)
    rcases hq with hq | hq
    ·
      obtain ⟨eh25, rfl, hf25_0, hf25_1⟩ := hq
      rw [(Prod.mk.inj eh25).1, (Prod.mk.inj eh25).2] at hT
      have h26 : rg 1 1 (i13 96 8) := hf25_0
      refine lv_if_eq (tgt := 82) hx hb dX9_partLine_66 (by decide) (fun c27 => (x_eq (rg_k (by decide) : rg 1 1 1) (rg_k (by decide) : rg 0 0 0) (i_eq c27) (by decide)).elim) (fun c27 => ?_)
      refine lv_aload_n hx hb dX9_partLine_69 rfl (lv_at hl 1 rfl) ?_
      refine lv_ldc2 (v := 10497768) hx hb X.2.2.2.1 (X.2.2.2.2.1 _ gm_1606) dX9_partLine_70 ?_
      refine lv_iconst (v := 1) hx hb dX9_partLine_73 (by decide) ?_
      refine lv_bipush (v := 60) hx hb dX9_partLine_74 (by decide) ?_
      refine e_Vi (As := [.long 10497768, .int 1, .int 60]) (rest := [.int x14, .ref (h 104)]) X Y hT hS (m_X9_number_ hR13 (10497768) (1) (60) hP13) mk_X9_number_ gm_1577 rfl rfl (by decide) hd_X9_number_ ⟨rfl, rfl⟩ ⟨Nat.le_of_ble_eq_true rfl, Nat.le_of_ble_eq_true rfl⟩ hl.1 rfl (Nat.le_of_ble_eq_true rfl) dX9_partLine_76 ⟨Nat.zero_le _, Nat.zero_le _⟩ (fun r28 i28 g28 H locs hq hT hS => ?_)
      obtain ⟨hR28, hf28, hp28_0, hf28_0, hf28_1⟩ := hq
      have hF28 := Fr_tr hF13 hf28 (by decide)
      replace hp28_0 : (i28 96 7).toInt ≤ (i28 96 6).toInt := hp28_0
      have hQ29_i : prg i i28 := prg_tr hQ13_i hf28_0
      replace hf28_1 : 1 ≤ r28.toInt ∧ (r28.toInt ≤ 60 ∨ r28.toInt = 1) := hf28_1
      have h30 : rg 1 60 r28 := ⟨by omega, by omega⟩
      refine lv_goto (tgt := 83) hx hb dX9_partLine_79 (by decide) ?_
      refine r_iast X hT hS 104 rfl (by decide) (v_in hx14 (by decide)) dX9_partLine_83 (fun H locs i31 ei31 hT hS => ?_)
      have hR31 := Rg_put hR28 ei31 0 60 rfl h30 (by decide)
      have hF31 := Fr_puti hF28 ei31 (by decide)
      have hP31 : (i31 96 7).toInt ≤ (i31 96 6).toInt := by rw [z_j ei31 rfl (by decide), z_j ei31 rfl (by decide)]; exact hp28_0
      have hQ31_i : prg i i31 := prg_j hQ29_i ei31 (by decide)
      refine lv_aload_n hx hb dX9_partLine_84 rfl (lv_at hl 1 rfl) ?_
      refine lv_iconst (v := 3) hx hb dX9_partLine_85 (by decide) ?_
      refine lv_aload_n hx hb dX9_partLine_86 rfl (lv_at hl 1 rfl) ?_
      refine lv_iconst (v := 3) hx hb dX9_partLine_87 (by decide) ?_
      refine e_Vi (As := [.int 3]) (rest := [.int 3, .ref (h 96)]) X Y hT hS (m_X9_hasRead_3 hR31 (3) (rg_k (by decide) : rg 3 3 3)) mk_X9_hasRead gm_1596 rfl rfl (by decide) hd_X9_hasRead ⟨rfl, rfl⟩ ⟨Nat.le_of_ble_eq_true rfl, Nat.le_of_ble_eq_true rfl⟩ hl.1 rfl (Nat.le_of_ble_eq_true rfl) dX9_partLine_88 ⟨Nat.zero_le _, Nat.zero_le _⟩ (fun r32 i32 g32 H locs hq hT hS => ?_)
      obtain ⟨eh32, hr32, hf32_0⟩ := hq
      rw [(Prod.mk.inj eh32).1, (Prod.mk.inj eh32).2] at hT
      have e33 : (i31 103 31) = (i 103 31) := (z_j ei31 (z_F hf28 (z_j ei13 (z_F hf10 (z_j ei8 (z_F hf5 rfl (by decide)) (by decide)) (by decide)) (by decide)) (by decide)) (by decide))
      have h34 : rg 0 5 (i31 103 31) := rg_of e33 hs103_31
      replace hf32_0 : r32 = (i31 103 31) := hf32_0
      have h35 : rg 0 5 r32 := rg_of hf32_0 h34
      refine lv_iconst (v := 1) hx hb dX9_partLine_91 (by decide) ?_
      refine q_iadd hx hb dX9_partLine_92 (fun x36 ex36 => ?_)
      obtain ⟨hx36, ax36⟩ := rg_add 1 6 ex36 h35 (rg_k (by decide) : rg 1 1 1) (by decide)
      replace ax36 : x36.toInt = r32.toInt + 1 := ax36
      refine e_Vv (As := [.int 3, .int x36]) (rest := []) X Y hT hS (m_X9_tellsOf_3_1t6 hR31 (3) x36 (rg_k (by decide) : rg 3 3 3) hx36) mk_X9_tellsOf gm_1534 rfl rfl (by decide) hd_X9_tellsOf ⟨rfl, rfl⟩ ⟨Nat.le_of_ble_eq_true rfl, Nat.le_of_ble_eq_true rfl⟩ hl.1 rfl (Nat.le_of_ble_eq_true rfl) dX9_partLine_93 ⟨Nat.zero_le _, Nat.zero_le _⟩ (fun i37 g37 H locs hq hT hS => ?_)
      obtain ⟨hR37, hf37⟩ := hq
      have hF37 := Fr_tr hF31 hf37 (by decide)
      have hP37 : (i37 96 7).toInt ≤ (i37 96 6).toInt := by rw [show i37 96 = _ from (hf37).1 96 (by decide)]; exact hP31
      have hQ37_i : prg i i37 := prg_f hQ31_i hf37 (by decide)
      exact hret _ _ _ _ _ _ dX9_partLine_96 hT hS ⟨hR37, hF37, hP37, hQ37_i⟩
    ·
      obtain ⟨eh25, rfl⟩ := hq
      rw [(Prod.mk.inj eh25).1, (Prod.mk.inj eh25).2] at hT
      refine lv_if_eq (tgt := 82) hx hb dX9_partLine_66 (by decide) (fun c38 => ?_) (fun c38 => (x_ne (rg_k (by decide) : rg 0 0 0) (rg_k (by decide) : rg 0 0 0) (i_ne c38) (by decide)).elim)
      refine lv_iconst (v := 0) hx hb dX9_partLine_82 (by decide) ?_
      refine r_iast X hT hS 104 rfl (by decide) (v_in hx14 (by decide)) dX9_partLine_83 (fun H locs i39 ei39 hT hS => ?_)
      have hR39 := Rg_put hR13 ei39 0 60 rfl (rg_k (by decide) : rg 0 0 0) (by decide)
      have hF39 := Fr_puti hF13 ei39 (by decide)
      have hP39 : (i39 96 7).toInt ≤ (i39 96 6).toInt := by rw [z_j ei39 rfl (by decide), z_j ei39 rfl (by decide)]; exact hP13
      have hQ39_i : prg i i39 := prg_j hQ13_i ei39 (by decide)
      refine lv_aload_n hx hb dX9_partLine_84 rfl (lv_at hl 1 rfl) ?_
      refine lv_iconst (v := 3) hx hb dX9_partLine_85 (by decide) ?_
      refine lv_aload_n hx hb dX9_partLine_86 rfl (lv_at hl 1 rfl) ?_
      refine lv_iconst (v := 3) hx hb dX9_partLine_87 (by decide) ?_
      refine e_Vi (As := [.int 3]) (rest := [.int 3, .ref (h 96)]) X Y hT hS (m_X9_hasRead_3 hR39 (3) (rg_k (by decide) : rg 3 3 3)) mk_X9_hasRead gm_1596 rfl rfl (by decide) hd_X9_hasRead ⟨rfl, rfl⟩ ⟨Nat.le_of_ble_eq_true rfl, Nat.le_of_ble_eq_true rfl⟩ hl.1 rfl (Nat.le_of_ble_eq_true rfl) dX9_partLine_88 ⟨Nat.zero_le _, Nat.zero_le _⟩ (fun r40 i40 g40 H locs hq hT hS => ?_)
      obtain ⟨eh40, hr40, hf40_0⟩ := hq
      rw [(Prod.mk.inj eh40).1, (Prod.mk.inj eh40).2] at hT
      have e41 : (i39 103 31) = (i 103 31) := (z_j ei39 (z_j ei13 (z_F hf10 (z_j ei8 (z_F hf5 rfl (by decide)) (by decide)) (by decide)) (by decide)) (by decide))
      have h42 : rg 0 5 (i39 103 31) := rg_of e41 hs103_31
      replace hf40_0 : r40 = (i39 103 31) := hf40_0
      have h43 : rg 0 5 r40 := rg_of hf40_0 h42
      refine lv_iconst (v := 1) hx hb dX9_partLine_91 (by decide) ?_
      refine q_iadd hx hb dX9_partLine_92 (fun x44 ex44 => ?_)
      obtain ⟨hx44, ax44⟩ := rg_add 1 6 ex44 h43 (rg_k (by decide) : rg 1 1 1) (by decide)
      replace ax44 : x44.toInt = r40.toInt + 1 := ax44
      refine e_Vv (As := [.int 3, .int x44]) (rest := []) X Y hT hS (m_X9_tellsOf_3_1t6 hR39 (3) x44 (rg_k (by decide) : rg 3 3 3) hx44) mk_X9_tellsOf gm_1534 rfl rfl (by decide) hd_X9_tellsOf ⟨rfl, rfl⟩ ⟨Nat.le_of_ble_eq_true rfl, Nat.le_of_ble_eq_true rfl⟩ hl.1 rfl (Nat.le_of_ble_eq_true rfl) dX9_partLine_93 ⟨Nat.zero_le _, Nat.zero_le _⟩ (fun i45 g45 H locs hq hT hS => ?_)
      obtain ⟨hR45, hf45⟩ := hq
      have hF45 := Fr_tr hF39 hf45 (by decide)
      have hP45 : (i45 96 7).toInt ≤ (i45 96 6).toInt := by rw [show i45 96 = _ from (hf45).1 96 (by decide)]; exact hP39
      have hQ45_i : prg i i45 := prg_f hQ39_i hf45 (by decide)
      exact hret _ _ _ _ _ _ dX9_partLine_96 hT hS ⟨hR45, hF45, hP45, hQ45_i⟩
set_option maxRecDepth 100000 in
set_option maxHeartbeats 4000000 in
theorem m_X9_hasRead_4 {l : Launch} {D : va_G} {h : Nat → Nat} {cz : Nat → ClassId} {z : EZ} {i : Nat → Nat → Int32} {g : Nat → Nat → Int64} (hR : Rg rA i) (a_a : Int32) (ha_a : rg 4 4 a_a) : DtI l yX9_hasRead cX9_hasRead 2 (some .int) ({ frames := 0, cells := 0, slots := 0, locals := 0 } : Room) D h cz z i g [.ref (h 96), .int a_a] (fun r u => u = (i, g) ∧ rg 0 10 r ∧ (r = i 103 32)) := by
  refine e_I pn_X9_hasRead (Nat.le_of_ble_eq_true rfl) ?_
  intro p e s m args below meth c ls Q X Y hret hT hl hS
  have hx := X.1
  have hb := X.2.1
  have hl : lv_has ls 2 [(0, .ref (h 96)), (1, .int a_a)] := hl
  refine lv_aload_n hx hb dX9_hasRead_0 rfl (lv_at hl 0 rfl) ?_
  refine r_getr X hT 96 17 103 fk_9_34 rfl rfl (by decide) dX9_hasRead_1 ?_
  refine lv_bipush (v := 28) hx hb dX9_hasRead_4 (by decide) ?_
  refine lv_iload_n hx hb dX9_hasRead_6 rfl (lv_at hl 1 rfl) ?_
  refine q_iadd hx hb dX9_hasRead_7 (fun x1 ex1 => ?_)
  obtain ⟨hx1, ax1⟩ := rg_add 32 32 ex1 (rg_k (by decide) : rg 28 28 28) ha_a (by decide)
  replace ax1 : x1.toInt = 28 + a_a.toInt := ax1
  refine r_ialdc X hT 103 32 rfl (by decide) (v_in hx1 (by decide)) (cl_c hx1 32 rfl (by decide)) dX9_hasRead_8 ?_
  exact hret (i 103 32) _ _ _ _ _ _ dX9_hasRead_9 hT hS ⟨rfl, (Rg_at hR 103 32 0 10 (by decide) rfl), rfl⟩
set_option maxRecDepth 100000 in
set_option maxHeartbeats 4000000 in
theorem m_X9_isRoom_4 {l : Launch} {D : va_G} {h : Nat → Nat} {cz : Nat → ClassId} {z : EZ} {i : Nat → Nat → Int32} {g : Nat → Nat → Int64} (hR : Rg rA i) (a_a : Int32) (a_b : Int32) (a_c : Int32) (ha_a : rg 0 1 a_a) (ha_b : rg 4 4 a_b) (ha_c : rg 10 10 a_c) (hp0 : (i 96 7).toInt ≤ (i 96 6).toInt) : DtI l yX9_isRoom cX9_isRoom 4 (some .boolean) ({ frames := 2, cells := 0, slots := 0, locals := 44 } : Room) D h cz z i g [.ref (h 96), .int a_a, .int a_b, .int a_c] (fun r u => (Rg rA u.1 ∧ Fr [96] [96] i g u ∧ r = 1 ∧ ((u.1 96 7).toInt ≤ (u.1 96 6).toInt) ∧ rg 1 1 a_a ∧ rg 0 9 (u.1 103 32) ∧ prg i u.1) ∨ (Rg rA u.1 ∧ Fr [96] [96] i g u ∧ r = 0 ∧ rg 0 0 a_a ∧ u = (i, g)) ∨ (Rg rA u.1 ∧ Fr [96] [96] i g u ∧ r = 0 ∧ ((u.1 96 7).toInt ≤ (u.1 96 6).toInt) ∧ rg 1 3 (u.1 96 12) ∧ prg i u.1)) := by
  refine e_Z (fun v u hq => (hq.elim (fun hq => (Or.inr hq.2.2.1)) (fun hq => (hq.elim (fun hq => (Or.inl hq.2.2.1)) (fun hq => (Or.inl hq.2.2.1)))))) pn_X9_isRoom (Nat.le_of_ble_eq_true rfl) ?_
  intro p e s m args below meth c ls Q X Y hret hT hl hS
  have hx := X.1
  have hb := X.2.1
  have hl : lv_has ls 4 [(0, .ref (h 96)), (1, .int a_a), (2, .int a_b), (3, .int a_c)] := hl
  have hF : Fr [96] [96] i g (i, g) := Fr_rf _ _ _ _
  refine lv_iload_n hx hb dX9_isRoom_0 rfl (lv_at hl 1 rfl) ?_
  refine lv_if_eq (tgt := 18) hx hb dX9_isRoom_1 (by decide) (fun c1 => ?_) (fun c1 => ?_)
  ·
    have q1 : a_a.toInt = 0 := i_eq c1
    have h2 : rg 0 0 a_a := t_eqx 0 0 ha_a (rg_k (by decide) : rg 0 0 0) (i_eq c1) (by decide)
    refine lv_iload_n hx hb dX9_isRoom_18 rfl (lv_at hl 1 rfl) ?_
    refine lv_if_eq (tgt := 33) hx hb dX9_isRoom_19 (by decide) (fun c3 => ?_) (fun c3 => (x_ne h2 (rg_k (by decide) : rg 0 0 0) (i_ne c3) (by decide)).elim)
    have q3 : a_a.toInt = 0 := i_eq c3
    refine lv_iload_n hx hb dX9_isRoom_33 rfl (lv_at hl 1 rfl) ?_
    refine lv_if_eq (tgt := 48) hx hb dX9_isRoom_34 (by decide) (fun c4 => ?_) (fun c4 => (x_ne h2 (rg_k (by decide) : rg 0 0 0) (i_ne c4) (by decide)).elim)
    have q4 : a_a.toInt = 0 := i_eq c4
    refine lv_iconst (v := 0) hx hb dX9_isRoom_48 (by decide) ?_
    exact hret 0 _ _ _ _ _ _ dX9_isRoom_49 hT hS (Or.inr (Or.inl ⟨hR, hF, rfl, h2, rfl⟩))
  ·
    have q1 : ¬ a_a.toInt = 0 := i_ne c1
    have h5 : rg 1 1 a_a := t_nelo 1 ha_a (rg_k (by decide) : rg 0 0 0) (i_ne c1) (by decide)
    refine lv_aload_n hx hb dX9_isRoom_4 rfl (lv_at hl 0 rfl) ?_
    refine lv_iload_n hx hb dX9_isRoom_5 rfl (lv_at hl 2 rfl) ?_
    refine e_Vi (As := [.int a_b]) (rest := []) X Y hT hS (m_X9_hasRead_4 hR a_b ha_b) mk_X9_hasRead gm_1596 rfl rfl (by decide) hd_X9_hasRead ⟨rfl, rfl⟩ ⟨Nat.le_of_ble_eq_true rfl, Nat.le_of_ble_eq_true rfl⟩ hl.1 rfl (Nat.le_of_ble_eq_true rfl) dX9_isRoom_6 ⟨Nat.zero_le _, Nat.zero_le _⟩ (fun r6 i6 g6 H locs hq hT hS => ?_)
    obtain ⟨eh6, hr6, hf6_0⟩ := hq
    rw [(Prod.mk.inj eh6).1, (Prod.mk.inj eh6).2] at hT
    replace hf6_0 : r6 = (i 103 32) := hf6_0
    have h7 : rg 0 10 r6 := rg_of hf6_0 (Rg_at hR 103 32 0 10 (by decide) rfl)
    refine lv_iload_n hx hb dX9_isRoom_9 rfl (lv_at hl 3 rfl) ?_
    refine lv_icmp_ne (tgt := 18) hx hb dX9_isRoom_10 (by decide) (fun c8 => ?_) (fun c8 => ?_)
    ·
      have q8 : ¬ r6.toInt = a_c.toInt := i_ne c8
      have h9 : rg 0 9 r6 := t_nehi 9 h7 ha_c (i_ne c8) (by decide)
      have h10 : rg 0 9 (i 103 32) := rg_fo hf6_0 h9
      refine lv_iload_n hx hb dX9_isRoom_18 rfl (lv_at hl 1 rfl) ?_
      refine lv_if_eq (tgt := 33) hx hb dX9_isRoom_19 (by decide) (fun c11 => (x_eq h5 (rg_k (by decide) : rg 0 0 0) (i_eq c11) (by decide)).elim) (fun c11 => ?_)
      have q11 : ¬ a_a.toInt = 0 := i_ne c11
      refine lv_aload_n hx hb dX9_isRoom_22 rfl (lv_at hl 0 rfl) ?_
      refine r_geti X hT 96 12 fk_9_135 rfl rfl (by decide) dX9_isRoom_23 ?_
      refine lv_if_ne (tgt := 33) hx hb dX9_isRoom_26 (by decide) (fun c12 => ?_) (fun c12 => ?_)
      ·
        have q12 : ¬ (i 96 12).toInt = 0 := i_ne c12
        have h13 : rg 1 3 (i 96 12) := t_nelo 1 (Rg_at hR 96 12 0 3 (by decide) rfl) (rg_k (by decide) : rg 0 0 0) (i_ne c12) (by decide)
        refine lv_iload_n hx hb dX9_isRoom_33 rfl (lv_at hl 1 rfl) ?_
        refine lv_if_eq (tgt := 48) hx hb dX9_isRoom_34 (by decide) (fun c14 => (x_eq h5 (rg_k (by decide) : rg 0 0 0) (i_eq c14) (by decide)).elim) (fun c14 => ?_)
        have q14 : ¬ a_a.toInt = 0 := i_ne c14
        refine lv_aload_n hx hb dX9_isRoom_37 rfl (lv_at hl 0 rfl) ?_
        refine r_geti X hT 96 12 fk_9_135 rfl rfl (by decide) dX9_isRoom_38 ?_
        refine lv_if_ne (tgt := 48) hx hb dX9_isRoom_41 (by decide) (fun c15 => ?_) (fun c15 => (x_eq h13 (rg_k (by decide) : rg 0 0 0) (i_eq c15) (by decide)).elim)
        have q15 : ¬ (i 96 12).toInt = 0 := i_ne c15
        refine lv_iconst (v := 0) hx hb dX9_isRoom_48 (by decide) ?_
        exact hret 0 _ _ _ _ _ _ dX9_isRoom_49 hT hS (Or.inr (Or.inr ⟨hR, hF, rfl, hp0, h13, (prg_rf i)⟩))
      ·
        have q12 : (i 96 12).toInt = 0 := i_eq c12
        have h16 : rg 0 0 (i 96 12) := t_eqx 0 0 (Rg_at hR 96 12 0 3 (by decide) rfl) (rg_k (by decide) : rg 0 0 0) (i_eq c12) (by decide)
        refine lv_aload_n hx hb dX9_isRoom_29 rfl (lv_at hl 0 rfl) ?_
        refine e_Vv (As := []) (rest := []) X Y hT hS (m_X9_follows hR hp0) mk_X9_follows gm_1542 rfl rfl (by decide) hd_X9_follows ⟨rfl, rfl⟩ ⟨Nat.le_of_ble_eq_true rfl, Nat.le_of_ble_eq_true rfl⟩ hl.1 rfl (Nat.le_of_ble_eq_true rfl) dX9_isRoom_30 ⟨Nat.zero_le _, Nat.zero_le _⟩ (fun i17 g17 H locs hq hT hS => ?_)
        obtain ⟨hR17, hf17, hp17_0, hf17_0, hf17_1⟩ := hq
        have hF17 := Fr_tr hF hf17 (by decide)
        replace hp17_0 : (i17 96 7).toInt ≤ (i17 96 6).toInt := hp17_0
        have hQ18_i : prg i i17 := prg_tr (prg_rf i) hf17_0
        refine lv_iload_n hx hb dX9_isRoom_33 rfl (lv_at hl 1 rfl) ?_
        refine lv_if_eq (tgt := 48) hx hb dX9_isRoom_34 (by decide) (fun c19 => (x_eq h5 (rg_k (by decide) : rg 0 0 0) (i_eq c19) (by decide)).elim) (fun c19 => ?_)
        have q19 : ¬ a_a.toInt = 0 := i_ne c19
        refine lv_aload_n hx hb dX9_isRoom_37 rfl (lv_at hl 0 rfl) ?_
        refine r_geti X hT 96 12 fk_9_135 rfl rfl (by decide) dX9_isRoom_38 ?_
        have e20 : (i17 96 12) = (i 96 12) := hf17_1
        have h21 : rg 0 0 (i17 96 12) := rg_of e20 h16
        refine lv_if_ne (tgt := 48) hx hb dX9_isRoom_41 (by decide) (fun c22 => (x_ne h21 (rg_k (by decide) : rg 0 0 0) (i_ne c22) (by decide)).elim) (fun c22 => ?_)
        have q22 : (i17 96 12).toInt = 0 := i_eq c22
        refine lv_iconst (v := 1) hx hb dX9_isRoom_44 (by decide) ?_
        refine lv_goto (tgt := 49) hx hb dX9_isRoom_45 (by decide) ?_
        have e23 : (i17 103 32) = (i 103 32) := (z_F hf17 rfl (by decide))
        have h24 : rg 0 9 (i17 103 32) := rg_of e23 h10
        exact hret 1 _ _ _ _ _ _ dX9_isRoom_49 hT hS (Or.inl ⟨hR17, hF17, rfl, hp17_0, h5, h24, hQ18_i⟩)
    ·
      have q8 : r6.toInt = a_c.toInt := i_eq c8
      have h25 : rg 10 10 r6 := t_eqx 10 10 h7 ha_c (i_eq c8) (by decide)
      have h26 : rg 10 10 (i 103 32) := rg_fo hf6_0 h25
      refine lv_aload_n hx hb dX9_isRoom_13 rfl (lv_at hl 0 rfl) ?_
      refine lv_iconst (v := 3) hx hb dX9_isRoom_14 (by decide) ?_
      refine e_Vv (As := [.int 3]) (rest := []) X Y hT hS (m_X9_fails hR (3) (rg_w (rg_k (by decide) : rg 3 3 3) (by decide) : rg 1 3 3) hp0) mk_X9_fails gm_1572 rfl rfl (by decide) hd_X9_fails ⟨rfl, rfl⟩ ⟨Nat.le_of_ble_eq_true rfl, Nat.le_of_ble_eq_true rfl⟩ hl.1 rfl (Nat.le_of_ble_eq_true rfl) dX9_isRoom_15 ⟨Nat.zero_le _, Nat.zero_le _⟩ (fun i27 g27 H locs hq hT hS => ?_)
      obtain ⟨hR27, hf27, hp27_0, hf27_0, hf27_1⟩ := hq
      have hF27 := Fr_tr hF hf27 (by decide)
      replace hp27_0 : (i27 96 7).toInt ≤ (i27 96 6).toInt := hp27_0
      have h28 : rg 1 3 (i27 96 12) := hf27_0
      have hQ29_i : prg i i27 := prg_tr (prg_rf i) hf27_1
      refine lv_iload_n hx hb dX9_isRoom_18 rfl (lv_at hl 1 rfl) ?_
      refine lv_if_eq (tgt := 33) hx hb dX9_isRoom_19 (by decide) (fun c30 => (x_eq h5 (rg_k (by decide) : rg 0 0 0) (i_eq c30) (by decide)).elim) (fun c30 => ?_)
      have q30 : ¬ a_a.toInt = 0 := i_ne c30
      refine lv_aload_n hx hb dX9_isRoom_22 rfl (lv_at hl 0 rfl) ?_
      refine r_geti X hT 96 12 fk_9_135 rfl rfl (by decide) dX9_isRoom_23 ?_
      refine lv_if_ne (tgt := 33) hx hb dX9_isRoom_26 (by decide) (fun c31 => ?_) (fun c31 => (x_eq h28 (rg_k (by decide) : rg 0 0 0) (i_eq c31) (by decide)).elim)
      have q31 : ¬ (i27 96 12).toInt = 0 := i_ne c31
      refine lv_iload_n hx hb dX9_isRoom_33 rfl (lv_at hl 1 rfl) ?_
      refine lv_if_eq (tgt := 48) hx hb dX9_isRoom_34 (by decide) (fun c32 => (x_eq h5 (rg_k (by decide) : rg 0 0 0) (i_eq c32) (by decide)).elim) (fun c32 => ?_)
      have q32 : ¬ a_a.toInt = 0 := i_ne c32
      refine lv_aload_n hx hb dX9_isRoom_37 rfl (lv_at hl 0 rfl) ?_
      refine r_geti X hT 96 12 fk_9_135 rfl rfl (by decide) dX9_isRoom_38 ?_
      refine lv_if_ne (tgt := 48) hx hb dX9_isRoom_41 (by decide) (fun c33 => ?_) (fun c33 => (x_eq h28 (rg_k (by decide) : rg 0 0 0) (i_eq c33) (by decide)).elim)
      have q33 : ¬ (i27 96 12).toInt = 0 := i_ne c33
      refine lv_iconst (v := 0) hx hb dX9_isRoom_48 (by decide) ?_
      exact hret 0 _ _ _ _ _ _ dX9_isRoom_49 hT hS (Or.inr (Or.inr ⟨hR27, hF27, rfl, hp27_0, h28, hQ29_i⟩))
set_option maxRecDepth 100000 in
set_option maxHeartbeats 4000000 in
theorem m_X9_partHere {l : Launch} {D : va_G} {h : Nat → Nat} {cz : Nat → ClassId} {z : EZ} {i : Nat → Nat → Int32} {g : Nat → Nat → Int64} (hR : Rg rA i) (hp0 : (i 96 7).toInt ≤ (i 96 6).toInt) : DtI l yX9_partHere cX9_partHere 1 (some .int) ({ frames := 3, cells := 0, slots := 0, locals := 67 } : Room) D h cz z i g [.ref (h 96)] (fun r u => Rg rA u.1 ∧ Fr [96] [96] i g u ∧ rg 0 5 r ∧ ((u.1 96 7).toInt ≤ (u.1 96 6).toInt) ∧ prg i u.1) := by
  refine e_I pn_X9_partHere (Nat.le_of_ble_eq_true rfl) ?_
  intro p e s m args below meth c ls Q X Y hret hT hl hS
  have hx := X.1
  have hb := X.2.1
  have hl : lv_has ls 1 [(0, .ref (h 96))] := hl
  have hF : Fr [96] [96] i g (i, g) := Fr_rf _ _ _ _
  refine lv_aload_n hx hb dX9_partHere_0 rfl (lv_at hl 0 rfl) ?_
  refine lv_iconst (v := 0) hx hb dX9_partHere_1 (by decide) ?_
  refine lv_aload_n hx hb dX9_partHere_2 rfl (lv_at hl 0 rfl) ?_
  refine lv_iconst (v := 3) hx hb dX9_partHere_3 (by decide) ?_
  refine e_Vi (As := [.int 3]) (rest := [.int 0, .ref (h 96)]) X Y hT hS (m_X9_hasRead_3 hR (3) (rg_k (by decide) : rg 3 3 3)) mk_X9_hasRead gm_1596 rfl rfl (by decide) hd_X9_hasRead ⟨rfl, rfl⟩ ⟨Nat.le_of_ble_eq_true rfl, Nat.le_of_ble_eq_true rfl⟩ hl.1 rfl (Nat.le_of_ble_eq_true rfl) dX9_partHere_4 ⟨Nat.zero_le _, Nat.zero_le _⟩ (fun r1 i1 g1 H locs hq hT hS => ?_)
  obtain ⟨eh1, hr1, hf1_0⟩ := hq
  rw [(Prod.mk.inj eh1).1, (Prod.mk.inj eh1).2] at hT
  replace hf1_0 : r1 = (i 103 31) := hf1_0
  have h2 : rg 0 6 r1 := rg_of hf1_0 (Rg_at hR 103 31 0 6 (by decide) rfl)
  refine lv_iconst (v := 1) hx hb dX9_partHere_7 (by decide) ?_
  refine q_isub hx hb dX9_partHere_8 (fun x3 ex3 => ?_)
  obtain ⟨hx3, ax3⟩ := rg_sub (-1) 5 ex3 h2 (rg_k (by decide) : rg 1 1 1) (by decide)
  replace ax3 : x3.toInt = r1.toInt - 1 := ax3
  refine e_Vi (As := [.int 0, .int x3]) (rest := []) X Y hT hS (m_X9_number hR (0) x3 hp0) mk_X9_number gm_1581 rfl rfl (by decide) hd_X9_number ⟨rfl, rfl⟩ ⟨Nat.le_of_ble_eq_true rfl, Nat.le_of_ble_eq_true rfl⟩ hl.1 rfl (Nat.le_of_ble_eq_true rfl) dX9_partHere_9 ⟨Nat.zero_le _, Nat.zero_le _⟩ (fun r4 i4 g4 H locs hq hT hS => ?_)
  obtain ⟨hR4, hf4, hp4_0, hf4_0, hf4_1⟩ := hq
  have hF4 := Fr_tr hF hf4 (by decide)
  replace hp4_0 : (i4 96 7).toInt ≤ (i4 96 6).toInt := hp4_0
  have hQ5_i : prg i i4 := prg_tr (prg_rf i) hf4_0
  replace hf4_1 : 0 ≤ r4.toInt ∧ (r4.toInt ≤ x3.toInt ∨ r4.toInt = 0) := hf4_1
  have h6 : rg 0 5 r4 := ⟨by have := hx3.1; have := hx3.2; omega, by have := hx3.1; have := hx3.2; omega⟩
  exact hret r4 _ _ _ _ _ _ dX9_partHere_12 hT hS ⟨hR4, hF4, h6, hp4_0, hQ5_i⟩
set_option maxRecDepth 100000 in
set_option maxHeartbeats 4000000 in
theorem m_X9_tellsOf_4_1t10 {l : Launch} {D : va_G} {h : Nat → Nat} {cz : Nat → ClassId} {z : EZ} {i : Nat → Nat → Int32} {g : Nat → Nat → Int64} (hR : Rg rA i) (a_a : Int32) (a_b : Int32) (ha_a : rg 4 4 a_a) (ha_b : rg 1 10 a_b) : DtV l yX9_tellsOf cX9_tellsOf 3 none ({ frames := 0, cells := 0, slots := 0, locals := 0 } : Room) D h cz z i g [.ref (h 96), .int a_a, .int a_b] (fun u => Rg rA u.1 ∧ Fr [103] [] i g u) := by
  refine e_V pn_X9_tellsOf (Nat.le_of_ble_eq_true rfl) ?_
  intro p e s m args below meth c ls Q X Y hret hT hl hS
  have hx := X.1
  have hb := X.2.1
  have hl : lv_has ls 3 [(0, .ref (h 96)), (1, .int a_a), (2, .int a_b)] := hl
  have hF : Fr [103] [] i g (i, g) := Fr_rf _ _ _ _
  refine lv_aload_n hx hb dX9_tellsOf_0 rfl (lv_at hl 0 rfl) ?_
  refine r_getr X hT 96 17 103 fk_9_34 rfl rfl (by decide) dX9_tellsOf_1 ?_
  refine lv_bipush (v := 28) hx hb dX9_tellsOf_4 (by decide) ?_
  refine lv_iload_n hx hb dX9_tellsOf_6 rfl (lv_at hl 1 rfl) ?_
  refine q_iadd hx hb dX9_tellsOf_7 (fun x1 ex1 => ?_)
  obtain ⟨hx1, ax1⟩ := rg_add 32 32 ex1 (rg_k (by decide) : rg 28 28 28) ha_a (by decide)
  replace ax1 : x1.toInt = 28 + a_a.toInt := ax1
  refine lv_iload_n hx hb dX9_tellsOf_8 rfl (lv_at hl 2 rfl) ?_
  refine r_iastc X hT hS 103 32 rfl (by decide) (v_in hx1 (by decide)) (cl_c hx1 32 rfl (by decide)) dX9_tellsOf_9 (fun H locs i2 ei2 hT hS => ?_)
  have hR2 := Rg_put hR ei2 0 10 rfl ha_b (by decide)
  have hF2 := Fr_puti hF ei2 (by decide)
  exact hret _ _ _ _ _ _ dX9_tellsOf_10 hT hS ⟨hR2, hF2⟩
set_option maxRecDepth 100000 in
set_option maxHeartbeats 4000000 in
theorem m_X9_areJoined {l : Launch} {D : va_G} {h : Nat → Nat} {cz : Nat → ClassId} {z : EZ} {i : Nat → Nat → Int32} {g : Nat → Nat → Int64} (hR : Rg rA i) (a_a : Int32) (a_b : Int32) : DtI l yX9_areJoined cX9_areJoined 6 (some .boolean) ({ frames := 1, cells := 0, slots := 0, locals := 21 } : Room) D h cz z i g [.ref (h 96), .int a_a, .int a_b] (fun r u => (u = (i, g) ∧ r = 1 ∧ rg 0 5 a_a ∧ rg 0 5 a_b) ∨ (u = (i, g) ∧ r = 0)) := by
  refine e_Z (fun v u hq => (hq.elim (fun hq => (Or.inr hq.2.1)) (fun hq => (Or.inl hq.2)))) pn_X9_areJoined (Nat.le_of_ble_eq_true rfl) ?_
  intro p e s m args below meth c ls Q X Y hret hT hl hS
  have hx := X.1
  have hb := X.2.1
  have hl : lv_has ls 6 [(0, .ref (h 96)), (1, .int a_a), (2, .int a_b)] := hl
  refine lv_iconst (v := 0) hx hb dX9_areJoined_0 (by decide) ?_
  refine lv_istore_n (lv' := [(3, .int 0), (0, .ref (h 96)), (1, .int a_a), (2, .int a_b)]) hx hb dX9_areJoined_1 rfl hl (by decide) rfl (fun ls hl => ?_)
  have L2_1 : ∀ (n2_ : Nat) (x2_3 : Int32) (H : Heap) (locs : List Loc) (ls : Array Slot), rg 0 10 x2_3 → TH D h cz i g H → va_S (hA h) s.heap H locs → lv_has ls 6 [(0, .ref (h 96)), (1, .int a_a), (2, .int a_b), (3, .int x2_3)] → (10 - x2_3.toInt).toNat < n2_ → W p l e ({ frames := 1, cells := 0, slots := 0, locals := 21 } : Room) s m args below meth c H locs 0 0 Q (F0 m 2 ls []) := by
    intro n2_
    induction n2_ with
    | zero => intro x2_3 H locs ls hhx2_3 hT hS hl hm2_; exact absurd hm2_ (Nat.not_lt_zero _)
    | succ n2_ ih2_ =>
      intro x2_3 H locs ls hhx2_3 hT hS hl hm2_
      refine lv_iload_n hx hb dX9_areJoined_2 rfl (lv_at hl 3 rfl) ?_
      refine lv_aload_n hx hb dX9_areJoined_3 rfl (lv_at hl 0 rfl) ?_
      refine lv_iconst (v := 4) hx hb dX9_areJoined_4 (by decide) ?_
      refine e_Vi (As := [.int 4]) (rest := [.int x2_3]) X Y hT hS (m_X9_hasRead_4 hR (4) (rg_k (by decide) : rg 4 4 4)) mk_X9_hasRead gm_1596 rfl rfl (by decide) hd_X9_hasRead ⟨rfl, rfl⟩ ⟨Nat.le_of_ble_eq_true rfl, Nat.le_of_ble_eq_true rfl⟩ hl.1 rfl (Nat.le_of_ble_eq_true rfl) dX9_areJoined_5 ⟨Nat.zero_le _, Nat.zero_le _⟩ (fun r3 i3 g3 H locs hq hT hS => ?_)
      obtain ⟨eh3, hr3, hf3_0⟩ := hq
      rw [(Prod.mk.inj eh3).1, (Prod.mk.inj eh3).2] at hT
      replace hf3_0 : r3 = (i 103 32) := hf3_0
      have h4 : rg 0 10 r3 := rg_of hf3_0 (Rg_at hR 103 32 0 10 (by decide) rfl)
      refine lv_icmp_ge (tgt := 71) hx hb dX9_areJoined_8 (by decide) (fun c5 => ?_) (fun c5 => ?_)
      ·
        have q5 : r3.toInt ≤ x2_3.toInt := i_le c5
        refine lv_iconst (v := 0) hx hb dX9_areJoined_71 (by decide) ?_
        exact hret 0 _ _ _ _ _ _ dX9_areJoined_72 hT hS (Or.inr ⟨rfl, rfl⟩)
      ·
        have q5 : x2_3.toInt < r3.toInt := i_nle c5
        have h6 : rg 0 9 x2_3 := t_ltx 0 9 hhx2_3 h4 (i_nle c5) (by decide)
        have h7 : rg 1 10 r3 := t_lty 1 10 hhx2_3 h4 (i_nle c5) (by decide)
        have h8 : rg 1 10 (i 103 32) := rg_fo hf3_0 h7
        refine lv_aload_n hx hb dX9_areJoined_11 rfl (lv_at hl 0 rfl) ?_
        refine r_getr X hT 96 19 105 fk_9_40 rfl rfl (by decide) dX9_areJoined_12 ?_
        refine lv_iconst (v := 2) hx hb dX9_areJoined_15 (by decide) ?_
        refine lv_bipush (v := 40) hx hb dX9_areJoined_16 (by decide) ?_
        refine lv_iload_n hx hb dX9_areJoined_18 rfl (lv_at hl 3 rfl) ?_
        refine q_iadd hx hb dX9_areJoined_19 (fun x9 ex9 => ?_)
        obtain ⟨hx9, ax9⟩ := rg_add 40 49 ex9 (rg_k (by decide) : rg 40 40 40) h6 (by decide)
        replace ax9 : x9.toInt = 40 + x2_3.toInt := ax9
        refine q_imul hx hb dX9_areJoined_20 (fun x10 ex10 => ?_)
        obtain ⟨hx10, ax10⟩ := rg_mul 80 98 ex10 (rg_k (by decide) : rg 2 2 2) hx9 (by decide)
        replace ax10 : x10.toInt = 2 * x9.toInt := ax10
        refine r_iald X hT 105 rfl (by decide) (v_in hx10 (by decide)) dX9_areJoined_21 ?_
        refine lv_istore (lv' := [(4, .int (i 105 x10.toNatClampNeg)), (0, .ref (h 96)), (1, .int a_a), (2, .int a_b), (3, .int x2_3)]) hx hb dX9_areJoined_22 hl (by decide) rfl (fun ls hl => ?_)
        refine lv_aload_n hx hb dX9_areJoined_24 rfl (lv_at hl 1 rfl) ?_
        refine r_getr X hT 96 19 105 fk_9_40 rfl rfl (by decide) dX9_areJoined_25 ?_
        refine lv_iconst (v := 2) hx hb dX9_areJoined_28 (by decide) ?_
        refine lv_bipush (v := 40) hx hb dX9_areJoined_29 (by decide) ?_
        refine lv_iload_n hx hb dX9_areJoined_31 rfl (lv_at hl 4 rfl) ?_
        refine q_iadd hx hb dX9_areJoined_32 (fun x11 ex11 => ?_)
        obtain ⟨hx11, ax11⟩ := rg_add 40 49 ex11 (rg_k (by decide) : rg 40 40 40) h6 (by decide)
        replace ax11 : x11.toInt = 40 + x2_3.toInt := ax11
        refine q_imul hx hb dX9_areJoined_33 (fun x12 ex12 => ?_)
        obtain ⟨hx12, ax12⟩ := rg_mul 80 98 ex12 (rg_k (by decide) : rg 2 2 2) hx11 (by decide)
        replace ax12 : x12.toInt = 2 * x11.toInt := ax12
        refine lv_iconst (v := 1) hx hb dX9_areJoined_34 (by decide) ?_
        refine q_iadd hx hb dX9_areJoined_35 (fun x13 ex13 => ?_)
        obtain ⟨hx13, ax13⟩ := rg_add 81 99 ex13 hx12 (rg_k (by decide) : rg 1 1 1) (by decide)
        replace ax13 : x13.toInt = x12.toInt + 1 := ax13
        refine r_iald X hT 105 rfl (by decide) (v_in hx13 (by decide)) dX9_areJoined_36 ?_
        refine lv_istore (lv' := [(5, .int (i 105 x13.toNatClampNeg)), (4, .int (i 105 x10.toNatClampNeg)), (0, .ref (h 96)), (1, .int a_a), (2, .int a_b), (3, .int x2_3)]) hx hb dX9_areJoined_37 hl (by decide) rfl (fun ls hl => ?_)
        refine lv_iload hx hb dX9_areJoined_39 (lv_at hl 1 rfl) ?_
        refine lv_iload_n hx hb dX9_areJoined_41 rfl (lv_at hl 3 rfl) ?_
        refine lv_icmp_ne (tgt := 51) hx hb dX9_areJoined_42 (by decide) (fun c14 => ?_) (fun c14 => ?_)
        ·
          have q14 : ¬ (i 105 x10.toNatClampNeg).toInt = a_a.toInt := i_ne c14
          refine lv_iload hx hb dX9_areJoined_51 (lv_at hl 1 rfl) ?_
          refine lv_iload_n hx hb dX9_areJoined_53 rfl (lv_at hl 4 rfl) ?_
          refine lv_icmp_ne (tgt := 65) hx hb dX9_areJoined_54 (by decide) (fun c15 => ?_) (fun c15 => ?_)
          ·
            have q15 : ¬ (i 105 x10.toNatClampNeg).toInt = a_b.toInt := i_ne c15
            obtain ⟨x16, ex16⟩ : ∃ y : Int32, y = x2_3 + 1 := ⟨_, rfl⟩
            refine lv_iinc (v := x16) (lv' := [(3, .int x16), (5, .int (i 105 x13.toNatClampNeg)), (4, .int (i 105 x10.toNatClampNeg)), (0, .ref (h 96)), (1, .int a_a), (2, .int a_b)]) hx hb dX9_areJoined_65 hl (k := 5) rfl (by rw [ex16]; rfl) (by decide) rfl (fun ls hl => ?_)
            obtain ⟨hx16, ax16⟩ := rg_add 1 10 ex16 h6 (rg_k (by decide) : rg 1 1 1) (by decide)
            replace ax16 : x16.toInt = x2_3.toInt + 1 := ax16
            refine lv_goto (tgt := 2) hx hb dX9_areJoined_68 (by decide) ?_
            exact ih2_ x16 _ _ _ (rg_w hx16 (by decide) : rg 0 10 x16) hT hS (lv_sub hl [3, 4, 5, 0] rfl) (m_up ax16 hx16 (by decide) hm2_)
          ·
            have q15 : (i 105 x10.toNatClampNeg).toInt = a_b.toInt := i_eq c15
            have h17 : rg 0 5 a_b := t_eqy 0 5 (Rg_at hR 105 x10.toNatClampNeg 0 5 (v_lt (v_in hx10 (by decide))) rfl) (rg_top a_b) (i_eq c15) (by decide)
            refine lv_iload hx hb dX9_areJoined_57 (lv_at hl 0 rfl) ?_
            refine lv_iload_n hx hb dX9_areJoined_59 rfl (lv_at hl 3 rfl) ?_
            refine lv_icmp_ne (tgt := 65) hx hb dX9_areJoined_60 (by decide) (fun c18 => ?_) (fun c18 => ?_)
            ·
              have q18 : ¬ (i 105 x13.toNatClampNeg).toInt = a_a.toInt := i_ne c18
              obtain ⟨x19, ex19⟩ : ∃ y : Int32, y = x2_3 + 1 := ⟨_, rfl⟩
              refine lv_iinc (v := x19) (lv' := [(3, .int x19), (5, .int (i 105 x13.toNatClampNeg)), (4, .int (i 105 x10.toNatClampNeg)), (0, .ref (h 96)), (1, .int a_a), (2, .int a_b)]) hx hb dX9_areJoined_65 hl (k := 5) rfl (by rw [ex19]; rfl) (by decide) rfl (fun ls hl => ?_)
              obtain ⟨hx19, ax19⟩ := rg_add 1 10 ex19 h6 (rg_k (by decide) : rg 1 1 1) (by decide)
              replace ax19 : x19.toInt = x2_3.toInt + 1 := ax19
              refine lv_goto (tgt := 2) hx hb dX9_areJoined_68 (by decide) ?_
              exact ih2_ x19 _ _ _ (rg_w hx19 (by decide) : rg 0 10 x19) hT hS (lv_sub hl [3, 4, 5, 0] rfl) (m_up ax19 hx19 (by decide) hm2_)
            ·
              have q18 : (i 105 x13.toNatClampNeg).toInt = a_a.toInt := i_eq c18
              have h20 : rg 0 5 a_a := t_eqy 0 5 (Rg_at hR 105 x13.toNatClampNeg 0 5 (v_lt (v_in hx13 (by decide))) rfl) (rg_top a_a) (i_eq c18) (by decide)
              refine lv_iconst (v := 1) hx hb dX9_areJoined_63 (by decide) ?_
              exact hret 1 _ _ _ _ _ _ dX9_areJoined_64 hT hS (Or.inl ⟨rfl, rfl, h20, h17⟩)
        ·
          have q14 : (i 105 x10.toNatClampNeg).toInt = a_a.toInt := i_eq c14
          have h21 : rg 0 5 a_a := t_eqy 0 5 (Rg_at hR 105 x10.toNatClampNeg 0 5 (v_lt (v_in hx10 (by decide))) rfl) (rg_top a_a) (i_eq c14) (by decide)
          refine lv_iload hx hb dX9_areJoined_45 (lv_at hl 0 rfl) ?_
          refine lv_iload_n hx hb dX9_areJoined_47 rfl (lv_at hl 4 rfl) ?_
          refine lv_icmp_eq (tgt := 63) hx hb dX9_areJoined_48 (by decide) (fun c22 => ?_) (fun c22 => ?_)
          ·
            have q22 : (i 105 x13.toNatClampNeg).toInt = a_b.toInt := i_eq c22
            have h23 : rg 0 5 a_b := t_eqy 0 5 (Rg_at hR 105 x13.toNatClampNeg 0 5 (v_lt (v_in hx13 (by decide))) rfl) (rg_top a_b) (i_eq c22) (by decide)
            refine lv_iconst (v := 1) hx hb dX9_areJoined_63 (by decide) ?_
            exact hret 1 _ _ _ _ _ _ dX9_areJoined_64 hT hS (Or.inl ⟨rfl, rfl, h21, h23⟩)
          ·
            have q22 : ¬ (i 105 x13.toNatClampNeg).toInt = a_b.toInt := i_ne c22
            refine lv_iload hx hb dX9_areJoined_51 (lv_at hl 1 rfl) ?_
            refine lv_iload_n hx hb dX9_areJoined_53 rfl (lv_at hl 4 rfl) ?_
            refine lv_icmp_ne (tgt := 65) hx hb dX9_areJoined_54 (by decide) (fun c24 => ?_) (fun c24 => ?_)
            ·
              have q24 : ¬ (i 105 x10.toNatClampNeg).toInt = a_b.toInt := i_ne c24
              obtain ⟨x25, ex25⟩ : ∃ y : Int32, y = x2_3 + 1 := ⟨_, rfl⟩
              refine lv_iinc (v := x25) (lv' := [(3, .int x25), (5, .int (i 105 x13.toNatClampNeg)), (4, .int (i 105 x10.toNatClampNeg)), (0, .ref (h 96)), (1, .int a_a), (2, .int a_b)]) hx hb dX9_areJoined_65 hl (k := 5) rfl (by rw [ex25]; rfl) (by decide) rfl (fun ls hl => ?_)
              obtain ⟨hx25, ax25⟩ := rg_add 1 10 ex25 h6 (rg_k (by decide) : rg 1 1 1) (by decide)
              replace ax25 : x25.toInt = x2_3.toInt + 1 := ax25
              refine lv_goto (tgt := 2) hx hb dX9_areJoined_68 (by decide) ?_
              exact ih2_ x25 _ _ _ (rg_w hx25 (by decide) : rg 0 10 x25) hT hS (lv_sub hl [3, 4, 5, 0] rfl) (m_up ax25 hx25 (by decide) hm2_)
            ·
              have q24 : (i 105 x10.toNatClampNeg).toInt = a_b.toInt := i_eq c24
              have h26 : rg 0 5 a_b := t_eqy 0 5 (Rg_at hR 105 x10.toNatClampNeg 0 5 (v_lt (v_in hx10 (by decide))) rfl) (rg_top a_b) (i_eq c24) (by decide)
              refine lv_iload hx hb dX9_areJoined_57 (lv_at hl 0 rfl) ?_
              refine lv_iload_n hx hb dX9_areJoined_59 rfl (lv_at hl 3 rfl) ?_
              refine lv_icmp_ne (tgt := 65) hx hb dX9_areJoined_60 (by decide) (fun c27 => ?_) (fun c27 => ?_)
              ·
                have q27 : ¬ (i 105 x13.toNatClampNeg).toInt = a_a.toInt := i_ne c27
                obtain ⟨x28, ex28⟩ : ∃ y : Int32, y = x2_3 + 1 := ⟨_, rfl⟩
                refine lv_iinc (v := x28) (lv' := [(3, .int x28), (5, .int (i 105 x13.toNatClampNeg)), (4, .int (i 105 x10.toNatClampNeg)), (0, .ref (h 96)), (1, .int a_a), (2, .int a_b)]) hx hb dX9_areJoined_65 hl (k := 5) rfl (by rw [ex28]; rfl) (by decide) rfl (fun ls hl => ?_)
                obtain ⟨hx28, ax28⟩ := rg_add 1 10 ex28 h6 (rg_k (by decide) : rg 1 1 1) (by decide)
                replace ax28 : x28.toInt = x2_3.toInt + 1 := ax28
                refine lv_goto (tgt := 2) hx hb dX9_areJoined_68 (by decide) ?_
                exact ih2_ x28 _ _ _ (rg_w hx28 (by decide) : rg 0 10 x28) hT hS (lv_sub hl [3, 4, 5, 0] rfl) (m_up ax28 hx28 (by decide) hm2_)
              ·
                have q27 : (i 105 x13.toNatClampNeg).toInt = a_a.toInt := i_eq c27
                refine lv_iconst (v := 1) hx hb dX9_areJoined_63 (by decide) ?_
                exact hret 1 _ _ _ _ _ _ dX9_areJoined_64 hT hS (Or.inl ⟨rfl, rfl, h21, h26⟩)
  exact L2_1 _ (0) _ _ _ (rg_w (rg_k (by decide) : rg 0 0 0) (by decide) : rg 0 10 0) hT hS (lv_sub hl [1, 2, 3, 0] rfl) (Nat.lt_succ_self _)
set_option maxRecDepth 100000 in
set_option maxHeartbeats 4000000 in
theorem m_X9_foldLine {l : Launch} {D : va_G} {h : Nat → Nat} {cz : Nat → ClassId} {z : EZ} {i : Nat → Nat → Int32} {g : Nat → Nat → Int64} (hR : Rg rA i) (hs103_32 : rg 0 9 (i 103 32)) (hp0 : (i 96 7).toInt ≤ (i 96 6).toInt) : DtV l yX9_foldLine cX9_foldLine 2 none ({ frames := 4, cells := 0, slots := 0, locals := 87 } : Room) D h cz z i g [.ref (h 96)] (fun u => Rg rA u.1 ∧ Fr [96, 103, 105] [96] i g u ∧ ((u.1 96 7).toInt ≤ (u.1 96 6).toInt) ∧ prg i u.1) := by
  refine e_V pn_X9_foldLine (Nat.le_of_ble_eq_true rfl) ?_
  intro p e s m args below meth c ls Q X Y hret hT hl hS
  have hx := X.1
  have hb := X.2.1
  have hl : lv_has ls 2 [(0, .ref (h 96))] := hl
  have hF : Fr [96, 103, 105] [96] i g (i, g) := Fr_rf _ _ _ _
  refine lv_iconst (v := 2) hx hb dX9_foldLine_0 (by decide) ?_
  refine lv_bipush (v := 40) hx hb dX9_foldLine_1 (by decide) ?_
  refine lv_aload_n hx hb dX9_foldLine_3 rfl (lv_at hl 0 rfl) ?_
  refine lv_iconst (v := 4) hx hb dX9_foldLine_4 (by decide) ?_
  refine e_Vi (As := [.int 4]) (rest := [.int 40, .int 2]) X Y hT hS (m_X9_hasRead_4 hR (4) (rg_k (by decide) : rg 4 4 4)) mk_X9_hasRead gm_1596 rfl rfl (by decide) hd_X9_hasRead ⟨rfl, rfl⟩ ⟨Nat.le_of_ble_eq_true rfl, Nat.le_of_ble_eq_true rfl⟩ hl.1 rfl (Nat.le_of_ble_eq_true rfl) dX9_foldLine_5 ⟨Nat.zero_le _, Nat.zero_le _⟩ (fun r1 i1 g1 H locs hq hT hS => ?_)
  obtain ⟨eh1, hr1, hf1_0⟩ := hq
  rw [(Prod.mk.inj eh1).1, (Prod.mk.inj eh1).2] at hT
  replace hf1_0 : r1 = (i 103 32) := hf1_0
  have h2 : rg 0 9 r1 := rg_of hf1_0 hs103_32
  refine q_iadd hx hb dX9_foldLine_8 (fun x3 ex3 => ?_)
  obtain ⟨hx3, ax3⟩ := rg_add 40 49 ex3 (rg_k (by decide) : rg 40 40 40) h2 (by decide)
  replace ax3 : x3.toInt = 40 + r1.toInt := ax3
  refine q_imul hx hb dX9_foldLine_9 (fun x4 ex4 => ?_)
  obtain ⟨hx4, ax4⟩ := rg_mul 80 98 ex4 (rg_k (by decide) : rg 2 2 2) hx3 (by decide)
  replace ax4 : x4.toInt = 2 * x3.toInt := ax4
  refine lv_istore_n (lv' := [(1, .int x4), (0, .ref (h 96))]) hx hb dX9_foldLine_10 rfl hl (by decide) rfl (fun ls hl => ?_)
  refine lv_aload_n hx hb dX9_foldLine_11 rfl (lv_at hl 1 rfl) ?_
  refine r_getr X hT 96 19 105 fk_9_40 rfl rfl (by decide) dX9_foldLine_12 ?_
  refine lv_iload_n hx hb dX9_foldLine_15 rfl (lv_at hl 0 rfl) ?_
  refine lv_aload_n hx hb dX9_foldLine_16 rfl (lv_at hl 1 rfl) ?_
  refine e_Vi (As := []) (rest := [.int x4, .ref (h 105)]) X Y hT hS (m_X9_partHere hR hp0) mk_X9_partHere gm_1612 rfl rfl (by decide) hd_X9_partHere ⟨rfl, rfl⟩ ⟨Nat.le_of_ble_eq_true rfl, Nat.le_of_ble_eq_true rfl⟩ hl.1 rfl (Nat.le_of_ble_eq_true rfl) dX9_foldLine_17 ⟨Nat.zero_le _, Nat.zero_le _⟩ (fun r5 i5 g5 H locs hq hT hS => ?_)
  obtain ⟨hR5, hf5, hr5, hp5_0, hf5_0⟩ := hq
  have hF5 := Fr_tr hF hf5 (by decide)
  replace hp5_0 : (i5 96 7).toInt ≤ (i5 96 6).toInt := hp5_0
  have hQ6_i : prg i i5 := prg_tr (prg_rf i) hf5_0
  refine r_iast X hT hS 105 rfl (by decide) (v_in hx4 (by decide)) dX9_foldLine_20 (fun H locs i7 ei7 hT hS => ?_)
  have hR7 := Rg_put hR5 ei7 0 5 rfl hr5 (by decide)
  have hF7 := Fr_puti hF5 ei7 (by decide)
  have hP7 : (i7 96 7).toInt ≤ (i7 96 6).toInt := by rw [z_j ei7 rfl (by decide), z_j ei7 rfl (by decide)]; exact hp5_0
  have hQ7_i : prg i i7 := prg_j hQ6_i ei7 (by decide)
  refine lv_aload_n hx hb dX9_foldLine_21 rfl (lv_at hl 1 rfl) ?_
  refine r_geti X hT 96 12 fk_9_135 rfl rfl (by decide) dX9_foldLine_22 ?_
  refine lv_if_ne (tgt := 71) hx hb dX9_foldLine_25 (by decide) (fun c8 => ?_) (fun c8 => ?_)
  ·
    have q8 : ¬ (i7 96 12).toInt = 0 := i_ne c8
    have h9 : rg 1 3 (i7 96 12) := t_nelo 1 (Rg_at hR7 96 12 0 3 (by decide) rfl) (rg_k (by decide) : rg 0 0 0) (i_ne c8) (by decide)
    refine lv_aload_n hx hb dX9_foldLine_71 rfl (lv_at hl 1 rfl) ?_
    refine r_getr X hT 96 19 105 fk_9_40 rfl rfl (by decide) dX9_foldLine_72 ?_
    refine lv_iload_n hx hb dX9_foldLine_75 rfl (lv_at hl 0 rfl) ?_
    refine lv_iconst (v := 1) hx hb dX9_foldLine_76 (by decide) ?_
    refine q_iadd hx hb dX9_foldLine_77 (fun x10 ex10 => ?_)
    obtain ⟨hx10, ax10⟩ := rg_add 81 99 ex10 hx4 (rg_k (by decide) : rg 1 1 1) (by decide)
    replace ax10 : x10.toInt = x4.toInt + 1 := ax10
    refine lv_aload_n hx hb dX9_foldLine_78 rfl (lv_at hl 1 rfl) ?_
    refine e_Vi (As := []) (rest := [.int x10, .ref (h 105)]) X Y hT hS (m_X9_partHere hR7 hP7) mk_X9_partHere gm_1612 rfl rfl (by decide) hd_X9_partHere ⟨rfl, rfl⟩ ⟨Nat.le_of_ble_eq_true rfl, Nat.le_of_ble_eq_true rfl⟩ hl.1 rfl (Nat.le_of_ble_eq_true rfl) dX9_foldLine_79 ⟨Nat.zero_le _, Nat.zero_le _⟩ (fun r11 i11 g11 H locs hq hT hS => ?_)
    obtain ⟨hR11, hf11, hr11, hp11_0, hf11_0⟩ := hq
    have hF11 := Fr_tr hF7 hf11 (by decide)
    replace hp11_0 : (i11 96 7).toInt ≤ (i11 96 6).toInt := hp11_0
    have hQ12_i : prg i i11 := prg_tr hQ7_i hf11_0
    refine r_iast X hT hS 105 rfl (by decide) (v_in hx10 (by decide)) dX9_foldLine_82 (fun H locs i13 ei13 hT hS => ?_)
    have hR13 := Rg_put hR11 ei13 0 5 rfl hr11 (by decide)
    have hF13 := Fr_puti hF11 ei13 (by decide)
    have hP13 : (i13 96 7).toInt ≤ (i13 96 6).toInt := by rw [z_j ei13 rfl (by decide), z_j ei13 rfl (by decide)]; exact hp11_0
    have hQ13_i : prg i i13 := prg_j hQ12_i ei13 (by decide)
    refine lv_aload_n hx hb dX9_foldLine_83 rfl (lv_at hl 1 rfl) ?_
    refine lv_iconst (v := 4) hx hb dX9_foldLine_84 (by decide) ?_
    refine lv_aload_n hx hb dX9_foldLine_85 rfl (lv_at hl 1 rfl) ?_
    refine lv_iconst (v := 4) hx hb dX9_foldLine_86 (by decide) ?_
    refine e_Vi (As := [.int 4]) (rest := [.int 4, .ref (h 96)]) X Y hT hS (m_X9_hasRead_4 hR13 (4) (rg_k (by decide) : rg 4 4 4)) mk_X9_hasRead gm_1596 rfl rfl (by decide) hd_X9_hasRead ⟨rfl, rfl⟩ ⟨Nat.le_of_ble_eq_true rfl, Nat.le_of_ble_eq_true rfl⟩ hl.1 rfl (Nat.le_of_ble_eq_true rfl) dX9_foldLine_87 ⟨Nat.zero_le _, Nat.zero_le _⟩ (fun r14 i14 g14 H locs hq hT hS => ?_)
    obtain ⟨eh14, hr14, hf14_0⟩ := hq
    rw [(Prod.mk.inj eh14).1, (Prod.mk.inj eh14).2] at hT
    have e15 : (i13 103 32) = (i 103 32) := (z_j ei13 (z_F hf11 (z_j ei7 (z_F hf5 rfl (by decide)) (by decide)) (by decide)) (by decide))
    have h16 : rg 0 9 (i13 103 32) := rg_of e15 hs103_32
    replace hf14_0 : r14 = (i13 103 32) := hf14_0
    have h17 : rg 0 9 r14 := rg_of hf14_0 h16
    refine lv_iconst (v := 1) hx hb dX9_foldLine_90 (by decide) ?_
    refine q_iadd hx hb dX9_foldLine_91 (fun x18 ex18 => ?_)
    obtain ⟨hx18, ax18⟩ := rg_add 1 10 ex18 h17 (rg_k (by decide) : rg 1 1 1) (by decide)
    replace ax18 : x18.toInt = r14.toInt + 1 := ax18
    refine e_Vv (As := [.int 4, .int x18]) (rest := []) X Y hT hS (m_X9_tellsOf_4_1t10 hR13 (4) x18 (rg_k (by decide) : rg 4 4 4) hx18) mk_X9_tellsOf gm_1534 rfl rfl (by decide) hd_X9_tellsOf ⟨rfl, rfl⟩ ⟨Nat.le_of_ble_eq_true rfl, Nat.le_of_ble_eq_true rfl⟩ hl.1 rfl (Nat.le_of_ble_eq_true rfl) dX9_foldLine_92 ⟨Nat.zero_le _, Nat.zero_le _⟩ (fun i19 g19 H locs hq hT hS => ?_)
    obtain ⟨hR19, hf19⟩ := hq
    have hF19 := Fr_tr hF13 hf19 (by decide)
    have hP19 : (i19 96 7).toInt ≤ (i19 96 6).toInt := by rw [show i19 96 = _ from (hf19).1 96 (by decide)]; exact hP13
    have hQ19_i : prg i i19 := prg_f hQ13_i hf19 (by decide)
    exact hret _ _ _ _ _ _ dX9_foldLine_95 hT hS ⟨hR19, hF19, hP19, hQ19_i⟩
  ·
    have q8 : (i7 96 12).toInt = 0 := i_eq c8
    have h20 : rg 0 0 (i7 96 12) := t_eqx 0 0 (Rg_at hR7 96 12 0 3 (by decide) rfl) (rg_k (by decide) : rg 0 0 0) (i_eq c8) (by decide)
    refine lv_aload_n hx hb dX9_foldLine_28 rfl (lv_at hl 1 rfl) ?_
    refine r_geti X hT 96 8 fk_9_124 rfl rfl (by decide) dX9_foldLine_29 ?_
    refine lv_iconst (v := 2) hx hb dX9_foldLine_32 (by decide) ?_
    refine lv_icmp_ne (tgt := 71) hx hb dX9_foldLine_33 (by decide) (fun c21 => ?_) (fun c21 => ?_)
    ·
      have q21 : ¬ (i7 96 8).toInt = 2 := i_ne c21
      refine lv_aload_n hx hb dX9_foldLine_71 rfl (lv_at hl 1 rfl) ?_
      refine r_getr X hT 96 19 105 fk_9_40 rfl rfl (by decide) dX9_foldLine_72 ?_
      refine lv_iload_n hx hb dX9_foldLine_75 rfl (lv_at hl 0 rfl) ?_
      refine lv_iconst (v := 1) hx hb dX9_foldLine_76 (by decide) ?_
      refine q_iadd hx hb dX9_foldLine_77 (fun x22 ex22 => ?_)
      obtain ⟨hx22, ax22⟩ := rg_add 81 99 ex22 hx4 (rg_k (by decide) : rg 1 1 1) (by decide)
      replace ax22 : x22.toInt = x4.toInt + 1 := ax22
      refine lv_aload_n hx hb dX9_foldLine_78 rfl (lv_at hl 1 rfl) ?_
      refine e_Vi (As := []) (rest := [.int x22, .ref (h 105)]) X Y hT hS (m_X9_partHere hR7 hP7) mk_X9_partHere gm_1612 rfl rfl (by decide) hd_X9_partHere ⟨rfl, rfl⟩ ⟨Nat.le_of_ble_eq_true rfl, Nat.le_of_ble_eq_true rfl⟩ hl.1 rfl (Nat.le_of_ble_eq_true rfl) dX9_foldLine_79 ⟨Nat.zero_le _, Nat.zero_le _⟩ (fun r23 i23 g23 H locs hq hT hS => ?_)
      obtain ⟨hR23, hf23, hr23, hp23_0, hf23_0⟩ := hq
      have hF23 := Fr_tr hF7 hf23 (by decide)
      replace hp23_0 : (i23 96 7).toInt ≤ (i23 96 6).toInt := hp23_0
      have hQ24_i : prg i i23 := prg_tr hQ7_i hf23_0
      refine r_iast X hT hS 105 rfl (by decide) (v_in hx22 (by decide)) dX9_foldLine_82 (fun H locs i25 ei25 hT hS => ?_)
      have hR25 := Rg_put hR23 ei25 0 5 rfl hr23 (by decide)
      have hF25 := Fr_puti hF23 ei25 (by decide)
      have hP25 : (i25 96 7).toInt ≤ (i25 96 6).toInt := by rw [z_j ei25 rfl (by decide), z_j ei25 rfl (by decide)]; exact hp23_0
      have hQ25_i : prg i i25 := prg_j hQ24_i ei25 (by decide)
      refine lv_aload_n hx hb dX9_foldLine_83 rfl (lv_at hl 1 rfl) ?_
      refine lv_iconst (v := 4) hx hb dX9_foldLine_84 (by decide) ?_
      refine lv_aload_n hx hb dX9_foldLine_85 rfl (lv_at hl 1 rfl) ?_
      refine lv_iconst (v := 4) hx hb dX9_foldLine_86 (by decide) ?_
      refine e_Vi (As := [.int 4]) (rest := [.int 4, .ref (h 96)]) X Y hT hS (m_X9_hasRead_4 hR25 (4) (rg_k (by decide) : rg 4 4 4)) mk_X9_hasRead gm_1596 rfl rfl (by decide) hd_X9_hasRead ⟨rfl, rfl⟩ ⟨Nat.le_of_ble_eq_true rfl, Nat.le_of_ble_eq_true rfl⟩ hl.1 rfl (Nat.le_of_ble_eq_true rfl) dX9_foldLine_87 ⟨Nat.zero_le _, Nat.zero_le _⟩ (fun r26 i26 g26 H locs hq hT hS => ?_)
      obtain ⟨eh26, hr26, hf26_0⟩ := hq
      rw [(Prod.mk.inj eh26).1, (Prod.mk.inj eh26).2] at hT
      have e27 : (i25 103 32) = (i 103 32) := (z_j ei25 (z_F hf23 (z_j ei7 (z_F hf5 rfl (by decide)) (by decide)) (by decide)) (by decide))
      have h28 : rg 0 9 (i25 103 32) := rg_of e27 hs103_32
      replace hf26_0 : r26 = (i25 103 32) := hf26_0
      have h29 : rg 0 9 r26 := rg_of hf26_0 h28
      refine lv_iconst (v := 1) hx hb dX9_foldLine_90 (by decide) ?_
      refine q_iadd hx hb dX9_foldLine_91 (fun x30 ex30 => ?_)
      obtain ⟨hx30, ax30⟩ := rg_add 1 10 ex30 h29 (rg_k (by decide) : rg 1 1 1) (by decide)
      replace ax30 : x30.toInt = r26.toInt + 1 := ax30
      refine e_Vv (As := [.int 4, .int x30]) (rest := []) X Y hT hS (m_X9_tellsOf_4_1t10 hR25 (4) x30 (rg_k (by decide) : rg 4 4 4) hx30) mk_X9_tellsOf gm_1534 rfl rfl (by decide) hd_X9_tellsOf ⟨rfl, rfl⟩ ⟨Nat.le_of_ble_eq_true rfl, Nat.le_of_ble_eq_true rfl⟩ hl.1 rfl (Nat.le_of_ble_eq_true rfl) dX9_foldLine_92 ⟨Nat.zero_le _, Nat.zero_le _⟩ (fun i31 g31 H locs hq hT hS => ?_)
      obtain ⟨hR31, hf31⟩ := hq
      have hF31 := Fr_tr hF25 hf31 (by decide)
      have hP31 : (i31 96 7).toInt ≤ (i31 96 6).toInt := by rw [show i31 96 = _ from (hf31).1 96 (by decide)]; exact hP25
      have hQ31_i : prg i i31 := prg_f hQ25_i hf31 (by decide)
      exact hret _ _ _ _ _ _ dX9_foldLine_95 hT hS ⟨hR31, hF31, hP31, hQ31_i⟩
    ·
      have q21 : (i7 96 8).toInt = 2 := i_eq c21
      have h32 : rg 2 2 (i7 96 8) := t_eqx 2 2 (rg_top (i7 96 8)) (rg_k (by decide) : rg 2 2 2) (i_eq c21) (by decide)
      refine lv_aload_n hx hb dX9_foldLine_36 rfl (lv_at hl 1 rfl) ?_
      refine r_geti X hT 96 10 fk_9_117 rfl rfl (by decide) dX9_foldLine_37 ?_
      refine lv_aload_n hx hb dX9_foldLine_40 rfl (lv_at hl 1 rfl) ?_
      refine r_getr X hT 96 19 105 fk_9_40 rfl rfl (by decide) dX9_foldLine_41 ?_
      refine lv_iload_n hx hb dX9_foldLine_44 rfl (lv_at hl 0 rfl) ?_
      refine r_iald X hT 105 rfl (by decide) (v_in hx4 (by decide)) dX9_foldLine_45 ?_
      refine lv_icmp_eq (tgt := 66) hx hb dX9_foldLine_46 (by decide) (fun c33 => ?_) (fun c33 => ?_)
      ·
        have q33 : (i7 96 10).toInt = (i7 105 x4.toNatClampNeg).toInt := i_eq c33
        have h34 : rg 0 5 (i7 96 10) := t_eqx 0 5 (rg_top (i7 96 10)) (Rg_at hR7 105 x4.toNatClampNeg 0 5 (v_lt (v_in hx4 (by decide))) rfl) (i_eq c33) (by decide)
        refine lv_aload_n hx hb dX9_foldLine_66 rfl (lv_at hl 1 rfl) ?_
        refine lv_iconst (v := 2) hx hb dX9_foldLine_67 (by decide) ?_
        refine e_Vv (As := [.int 2]) (rest := []) X Y hT hS (m_X9_fails hR7 (2) (rg_w (rg_k (by decide) : rg 2 2 2) (by decide) : rg 1 3 2) hP7) mk_X9_fails gm_1572 rfl rfl (by decide) hd_X9_fails ⟨rfl, rfl⟩ ⟨Nat.le_of_ble_eq_true rfl, Nat.le_of_ble_eq_true rfl⟩ hl.1 rfl (Nat.le_of_ble_eq_true rfl) dX9_foldLine_68 ⟨Nat.zero_le _, Nat.zero_le _⟩ (fun i35 g35 H locs hq hT hS => ?_)
        obtain ⟨hR35, hf35, hp35_0, hf35_0, hf35_1⟩ := hq
        have hF35 := Fr_tr hF7 hf35 (by decide)
        replace hp35_0 : (i35 96 7).toInt ≤ (i35 96 6).toInt := hp35_0
        have h36 : rg 1 3 (i35 96 12) := hf35_0
        have hQ37_i : prg i i35 := prg_tr hQ7_i hf35_1
        refine lv_aload_n hx hb dX9_foldLine_71 rfl (lv_at hl 1 rfl) ?_
        refine r_getr X hT 96 19 105 fk_9_40 rfl rfl (by decide) dX9_foldLine_72 ?_
        refine lv_iload_n hx hb dX9_foldLine_75 rfl (lv_at hl 0 rfl) ?_
        refine lv_iconst (v := 1) hx hb dX9_foldLine_76 (by decide) ?_
        refine q_iadd hx hb dX9_foldLine_77 (fun x38 ex38 => ?_)
        obtain ⟨hx38, ax38⟩ := rg_add 81 99 ex38 hx4 (rg_k (by decide) : rg 1 1 1) (by decide)
        replace ax38 : x38.toInt = x4.toInt + 1 := ax38
        refine lv_aload_n hx hb dX9_foldLine_78 rfl (lv_at hl 1 rfl) ?_
        refine e_Vi (As := []) (rest := [.int x38, .ref (h 105)]) X Y hT hS (m_X9_partHere hR35 hp35_0) mk_X9_partHere gm_1612 rfl rfl (by decide) hd_X9_partHere ⟨rfl, rfl⟩ ⟨Nat.le_of_ble_eq_true rfl, Nat.le_of_ble_eq_true rfl⟩ hl.1 rfl (Nat.le_of_ble_eq_true rfl) dX9_foldLine_79 ⟨Nat.zero_le _, Nat.zero_le _⟩ (fun r39 i39 g39 H locs hq hT hS => ?_)
        obtain ⟨hR39, hf39, hr39, hp39_0, hf39_0⟩ := hq
        have hF39 := Fr_tr hF35 hf39 (by decide)
        replace hp39_0 : (i39 96 7).toInt ≤ (i39 96 6).toInt := hp39_0
        have hQ40_i : prg i i39 := prg_tr hQ37_i hf39_0
        refine r_iast X hT hS 105 rfl (by decide) (v_in hx38 (by decide)) dX9_foldLine_82 (fun H locs i41 ei41 hT hS => ?_)
        have hR41 := Rg_put hR39 ei41 0 5 rfl hr39 (by decide)
        have hF41 := Fr_puti hF39 ei41 (by decide)
        have hP41 : (i41 96 7).toInt ≤ (i41 96 6).toInt := by rw [z_j ei41 rfl (by decide), z_j ei41 rfl (by decide)]; exact hp39_0
        have hQ41_i : prg i i41 := prg_j hQ40_i ei41 (by decide)
        refine lv_aload_n hx hb dX9_foldLine_83 rfl (lv_at hl 1 rfl) ?_
        refine lv_iconst (v := 4) hx hb dX9_foldLine_84 (by decide) ?_
        refine lv_aload_n hx hb dX9_foldLine_85 rfl (lv_at hl 1 rfl) ?_
        refine lv_iconst (v := 4) hx hb dX9_foldLine_86 (by decide) ?_
        refine e_Vi (As := [.int 4]) (rest := [.int 4, .ref (h 96)]) X Y hT hS (m_X9_hasRead_4 hR41 (4) (rg_k (by decide) : rg 4 4 4)) mk_X9_hasRead gm_1596 rfl rfl (by decide) hd_X9_hasRead ⟨rfl, rfl⟩ ⟨Nat.le_of_ble_eq_true rfl, Nat.le_of_ble_eq_true rfl⟩ hl.1 rfl (Nat.le_of_ble_eq_true rfl) dX9_foldLine_87 ⟨Nat.zero_le _, Nat.zero_le _⟩ (fun r42 i42 g42 H locs hq hT hS => ?_)
        obtain ⟨eh42, hr42, hf42_0⟩ := hq
        rw [(Prod.mk.inj eh42).1, (Prod.mk.inj eh42).2] at hT
        have e43 : (i41 103 32) = (i 103 32) := (z_j ei41 (z_F hf39 (z_F hf35 (z_j ei7 (z_F hf5 rfl (by decide)) (by decide)) (by decide)) (by decide)) (by decide))
        have h44 : rg 0 9 (i41 103 32) := rg_of e43 hs103_32
        replace hf42_0 : r42 = (i41 103 32) := hf42_0
        have h45 : rg 0 9 r42 := rg_of hf42_0 h44
        refine lv_iconst (v := 1) hx hb dX9_foldLine_90 (by decide) ?_
        refine q_iadd hx hb dX9_foldLine_91 (fun x46 ex46 => ?_)
        obtain ⟨hx46, ax46⟩ := rg_add 1 10 ex46 h45 (rg_k (by decide) : rg 1 1 1) (by decide)
        replace ax46 : x46.toInt = r42.toInt + 1 := ax46
        refine e_Vv (As := [.int 4, .int x46]) (rest := []) X Y hT hS (m_X9_tellsOf_4_1t10 hR41 (4) x46 (rg_k (by decide) : rg 4 4 4) hx46) mk_X9_tellsOf gm_1534 rfl rfl (by decide) hd_X9_tellsOf ⟨rfl, rfl⟩ ⟨Nat.le_of_ble_eq_true rfl, Nat.le_of_ble_eq_true rfl⟩ hl.1 rfl (Nat.le_of_ble_eq_true rfl) dX9_foldLine_92 ⟨Nat.zero_le _, Nat.zero_le _⟩ (fun i47 g47 H locs hq hT hS => ?_)
        obtain ⟨hR47, hf47⟩ := hq
        have hF47 := Fr_tr hF41 hf47 (by decide)
        have hP47 : (i47 96 7).toInt ≤ (i47 96 6).toInt := by rw [show i47 96 = _ from (hf47).1 96 (by decide)]; exact hP41
        have hQ47_i : prg i i47 := prg_f hQ41_i hf47 (by decide)
        exact hret _ _ _ _ _ _ dX9_foldLine_95 hT hS ⟨hR47, hF47, hP47, hQ47_i⟩
      ·
        have q33 : ¬ (i7 96 10).toInt = (i7 105 x4.toNatClampNeg).toInt := i_ne c33
        refine lv_aload_n hx hb dX9_foldLine_49 rfl (lv_at hl 1 rfl) ?_
        refine lv_aload_n hx hb dX9_foldLine_50 rfl (lv_at hl 1 rfl) ?_
        refine r_getr X hT 96 19 105 fk_9_40 rfl rfl (by decide) dX9_foldLine_51 ?_
        refine lv_iload_n hx hb dX9_foldLine_54 rfl (lv_at hl 0 rfl) ?_
        refine r_iald X hT 105 rfl (by decide) (v_in hx4 (by decide)) dX9_foldLine_55 ?_
        refine lv_aload_n hx hb dX9_foldLine_56 rfl (lv_at hl 1 rfl) ?_
        refine r_geti X hT 96 10 fk_9_117 rfl rfl (by decide) dX9_foldLine_57 ?_
        refine e_Vi (As := [.int (i7 105 x4.toNatClampNeg), .int (i7 96 10)]) (rest := []) X Y hT hS (m_X9_areJoined hR7 (i7 105 x4.toNatClampNeg) (i7 96 10)) mk_X9_areJoined gm_1616 rfl rfl (by decide) hd_X9_areJoined ⟨rfl, rfl⟩ ⟨Nat.le_of_ble_eq_true rfl, Nat.le_of_ble_eq_true rfl⟩ hl.1 rfl (Nat.le_of_ble_eq_true rfl) dX9_foldLine_60 ⟨Nat.zero_le _, Nat.zero_le _⟩ (fun r48 i48 g48 H locs hq hT hS => ?_)
        rcases hq with hq | hq
        ·
          obtain ⟨eh48, rfl, hf48_0, hf48_1⟩ := hq
          rw [(Prod.mk.inj eh48).1, (Prod.mk.inj eh48).2] at hT
          have h49 : rg 0 5 (i7 96 10) := ⟨by have := (rg_top (i7 96 10)).1; have := hf48_1.1; omega, by have := (rg_top (i7 96 10)).2; have := hf48_1.2; omega⟩
          refine lv_if_eq (tgt := 71) hx hb dX9_foldLine_63 (by decide) (fun c50 => (x_eq (rg_k (by decide) : rg 1 1 1) (rg_k (by decide) : rg 0 0 0) (i_eq c50) (by decide)).elim) (fun c50 => ?_)
          refine lv_aload_n hx hb dX9_foldLine_66 rfl (lv_at hl 1 rfl) ?_
          refine lv_iconst (v := 2) hx hb dX9_foldLine_67 (by decide) ?_
          refine e_Vv (As := [.int 2]) (rest := []) X Y hT hS (m_X9_fails hR7 (2) (rg_w (rg_k (by decide) : rg 2 2 2) (by decide) : rg 1 3 2) hP7) mk_X9_fails gm_1572 rfl rfl (by decide) hd_X9_fails ⟨rfl, rfl⟩ ⟨Nat.le_of_ble_eq_true rfl, Nat.le_of_ble_eq_true rfl⟩ hl.1 rfl (Nat.le_of_ble_eq_true rfl) dX9_foldLine_68 ⟨Nat.zero_le _, Nat.zero_le _⟩ (fun i51 g51 H locs hq hT hS => ?_)
          obtain ⟨hR51, hf51, hp51_0, hf51_0, hf51_1⟩ := hq
          have hF51 := Fr_tr hF7 hf51 (by decide)
          replace hp51_0 : (i51 96 7).toInt ≤ (i51 96 6).toInt := hp51_0
          have h52 : rg 1 3 (i51 96 12) := hf51_0
          have hQ53_i : prg i i51 := prg_tr hQ7_i hf51_1
          refine lv_aload_n hx hb dX9_foldLine_71 rfl (lv_at hl 1 rfl) ?_
          refine r_getr X hT 96 19 105 fk_9_40 rfl rfl (by decide) dX9_foldLine_72 ?_
          refine lv_iload_n hx hb dX9_foldLine_75 rfl (lv_at hl 0 rfl) ?_
          refine lv_iconst (v := 1) hx hb dX9_foldLine_76 (by decide) ?_
          refine q_iadd hx hb dX9_foldLine_77 (fun x54 ex54 => ?_)
          obtain ⟨hx54, ax54⟩ := rg_add 81 99 ex54 hx4 (rg_k (by decide) : rg 1 1 1) (by decide)
          replace ax54 : x54.toInt = x4.toInt + 1 := ax54
          refine lv_aload_n hx hb dX9_foldLine_78 rfl (lv_at hl 1 rfl) ?_
          refine e_Vi (As := []) (rest := [.int x54, .ref (h 105)]) X Y hT hS (m_X9_partHere hR51 hp51_0) mk_X9_partHere gm_1612 rfl rfl (by decide) hd_X9_partHere ⟨rfl, rfl⟩ ⟨Nat.le_of_ble_eq_true rfl, Nat.le_of_ble_eq_true rfl⟩ hl.1 rfl (Nat.le_of_ble_eq_true rfl) dX9_foldLine_79 ⟨Nat.zero_le _, Nat.zero_le _⟩ (fun r55 i55 g55 H locs hq hT hS => ?_)
          obtain ⟨hR55, hf55, hr55, hp55_0, hf55_0⟩ := hq
          have hF55 := Fr_tr hF51 hf55 (by decide)
          replace hp55_0 : (i55 96 7).toInt ≤ (i55 96 6).toInt := hp55_0
          have hQ56_i : prg i i55 := prg_tr hQ53_i hf55_0
          refine r_iast X hT hS 105 rfl (by decide) (v_in hx54 (by decide)) dX9_foldLine_82 (fun H locs i57 ei57 hT hS => ?_)
          have hR57 := Rg_put hR55 ei57 0 5 rfl hr55 (by decide)
          have hF57 := Fr_puti hF55 ei57 (by decide)
          have hP57 : (i57 96 7).toInt ≤ (i57 96 6).toInt := by rw [z_j ei57 rfl (by decide), z_j ei57 rfl (by decide)]; exact hp55_0
          have hQ57_i : prg i i57 := prg_j hQ56_i ei57 (by decide)
          refine lv_aload_n hx hb dX9_foldLine_83 rfl (lv_at hl 1 rfl) ?_
          refine lv_iconst (v := 4) hx hb dX9_foldLine_84 (by decide) ?_
          refine lv_aload_n hx hb dX9_foldLine_85 rfl (lv_at hl 1 rfl) ?_
          refine lv_iconst (v := 4) hx hb dX9_foldLine_86 (by decide) ?_
          refine e_Vi (As := [.int 4]) (rest := [.int 4, .ref (h 96)]) X Y hT hS (m_X9_hasRead_4 hR57 (4) (rg_k (by decide) : rg 4 4 4)) mk_X9_hasRead gm_1596 rfl rfl (by decide) hd_X9_hasRead ⟨rfl, rfl⟩ ⟨Nat.le_of_ble_eq_true rfl, Nat.le_of_ble_eq_true rfl⟩ hl.1 rfl (Nat.le_of_ble_eq_true rfl) dX9_foldLine_87 ⟨Nat.zero_le _, Nat.zero_le _⟩ (fun r58 i58 g58 H locs hq hT hS => ?_)
          obtain ⟨eh58, hr58, hf58_0⟩ := hq
          rw [(Prod.mk.inj eh58).1, (Prod.mk.inj eh58).2] at hT
          have e59 : (i57 103 32) = (i 103 32) := (z_j ei57 (z_F hf55 (z_F hf51 (z_j ei7 (z_F hf5 rfl (by decide)) (by decide)) (by decide)) (by decide)) (by decide))
          have h60 : rg 0 9 (i57 103 32) := rg_of e59 hs103_32
          replace hf58_0 : r58 = (i57 103 32) := hf58_0
          have h61 : rg 0 9 r58 := rg_of hf58_0 h60
          refine lv_iconst (v := 1) hx hb dX9_foldLine_90 (by decide) ?_
          refine q_iadd hx hb dX9_foldLine_91 (fun x62 ex62 => ?_)
          obtain ⟨hx62, ax62⟩ := rg_add 1 10 ex62 h61 (rg_k (by decide) : rg 1 1 1) (by decide)
          replace ax62 : x62.toInt = r58.toInt + 1 := ax62
          refine e_Vv (As := [.int 4, .int x62]) (rest := []) X Y hT hS (m_X9_tellsOf_4_1t10 hR57 (4) x62 (rg_k (by decide) : rg 4 4 4) hx62) mk_X9_tellsOf gm_1534 rfl rfl (by decide) hd_X9_tellsOf ⟨rfl, rfl⟩ ⟨Nat.le_of_ble_eq_true rfl, Nat.le_of_ble_eq_true rfl⟩ hl.1 rfl (Nat.le_of_ble_eq_true rfl) dX9_foldLine_92 ⟨Nat.zero_le _, Nat.zero_le _⟩ (fun i63 g63 H locs hq hT hS => ?_)
          obtain ⟨hR63, hf63⟩ := hq
          have hF63 := Fr_tr hF57 hf63 (by decide)
          have hP63 : (i63 96 7).toInt ≤ (i63 96 6).toInt := by rw [show i63 96 = _ from (hf63).1 96 (by decide)]; exact hP57
          have hQ63_i : prg i i63 := prg_f hQ57_i hf63 (by decide)
          exact hret _ _ _ _ _ _ dX9_foldLine_95 hT hS ⟨hR63, hF63, hP63, hQ63_i⟩
        ·
          obtain ⟨eh48, rfl⟩ := hq
          rw [(Prod.mk.inj eh48).1, (Prod.mk.inj eh48).2] at hT
          refine lv_if_eq (tgt := 71) hx hb dX9_foldLine_63 (by decide) (fun c64 => ?_) (fun c64 => (x_ne (rg_k (by decide) : rg 0 0 0) (rg_k (by decide) : rg 0 0 0) (i_ne c64) (by decide)).elim)
          refine lv_aload_n hx hb dX9_foldLine_71 rfl (lv_at hl 1 rfl) ?_
          refine r_getr X hT 96 19 105 fk_9_40 rfl rfl (by decide) dX9_foldLine_72 ?_
          refine lv_iload_n hx hb dX9_foldLine_75 rfl (lv_at hl 0 rfl) ?_
          refine lv_iconst (v := 1) hx hb dX9_foldLine_76 (by decide) ?_
          refine q_iadd hx hb dX9_foldLine_77 (fun x65 ex65 => ?_)
          obtain ⟨hx65, ax65⟩ := rg_add 81 99 ex65 hx4 (rg_k (by decide) : rg 1 1 1) (by decide)
          replace ax65 : x65.toInt = x4.toInt + 1 := ax65
          refine lv_aload_n hx hb dX9_foldLine_78 rfl (lv_at hl 1 rfl) ?_
          refine e_Vi (As := []) (rest := [.int x65, .ref (h 105)]) X Y hT hS (m_X9_partHere hR7 hP7) mk_X9_partHere gm_1612 rfl rfl (by decide) hd_X9_partHere ⟨rfl, rfl⟩ ⟨Nat.le_of_ble_eq_true rfl, Nat.le_of_ble_eq_true rfl⟩ hl.1 rfl (Nat.le_of_ble_eq_true rfl) dX9_foldLine_79 ⟨Nat.zero_le _, Nat.zero_le _⟩ (fun r66 i66 g66 H locs hq hT hS => ?_)
          obtain ⟨hR66, hf66, hr66, hp66_0, hf66_0⟩ := hq
          have hF66 := Fr_tr hF7 hf66 (by decide)
          replace hp66_0 : (i66 96 7).toInt ≤ (i66 96 6).toInt := hp66_0
          have hQ67_i : prg i i66 := prg_tr hQ7_i hf66_0
          refine r_iast X hT hS 105 rfl (by decide) (v_in hx65 (by decide)) dX9_foldLine_82 (fun H locs i68 ei68 hT hS => ?_)
          have hR68 := Rg_put hR66 ei68 0 5 rfl hr66 (by decide)
          have hF68 := Fr_puti hF66 ei68 (by decide)
          have hP68 : (i68 96 7).toInt ≤ (i68 96 6).toInt := by rw [z_j ei68 rfl (by decide), z_j ei68 rfl (by decide)]; exact hp66_0
          have hQ68_i : prg i i68 := prg_j hQ67_i ei68 (by decide)
          refine lv_aload_n hx hb dX9_foldLine_83 rfl (lv_at hl 1 rfl) ?_
          refine lv_iconst (v := 4) hx hb dX9_foldLine_84 (by decide) ?_
          refine lv_aload_n hx hb dX9_foldLine_85 rfl (lv_at hl 1 rfl) ?_
          refine lv_iconst (v := 4) hx hb dX9_foldLine_86 (by decide) ?_
          refine e_Vi (As := [.int 4]) (rest := [.int 4, .ref (h 96)]) X Y hT hS (m_X9_hasRead_4 hR68 (4) (rg_k (by decide) : rg 4 4 4)) mk_X9_hasRead gm_1596 rfl rfl (by decide) hd_X9_hasRead ⟨rfl, rfl⟩ ⟨Nat.le_of_ble_eq_true rfl, Nat.le_of_ble_eq_true rfl⟩ hl.1 rfl (Nat.le_of_ble_eq_true rfl) dX9_foldLine_87 ⟨Nat.zero_le _, Nat.zero_le _⟩ (fun r69 i69 g69 H locs hq hT hS => ?_)
          obtain ⟨eh69, hr69, hf69_0⟩ := hq
          rw [(Prod.mk.inj eh69).1, (Prod.mk.inj eh69).2] at hT
          have e70 : (i68 103 32) = (i 103 32) := (z_j ei68 (z_F hf66 (z_j ei7 (z_F hf5 rfl (by decide)) (by decide)) (by decide)) (by decide))
          have h71 : rg 0 9 (i68 103 32) := rg_of e70 hs103_32
          replace hf69_0 : r69 = (i68 103 32) := hf69_0
          have h72 : rg 0 9 r69 := rg_of hf69_0 h71
          refine lv_iconst (v := 1) hx hb dX9_foldLine_90 (by decide) ?_
          refine q_iadd hx hb dX9_foldLine_91 (fun x73 ex73 => ?_)
          obtain ⟨hx73, ax73⟩ := rg_add 1 10 ex73 h72 (rg_k (by decide) : rg 1 1 1) (by decide)
          replace ax73 : x73.toInt = r69.toInt + 1 := ax73
          refine e_Vv (As := [.int 4, .int x73]) (rest := []) X Y hT hS (m_X9_tellsOf_4_1t10 hR68 (4) x73 (rg_k (by decide) : rg 4 4 4) hx73) mk_X9_tellsOf gm_1534 rfl rfl (by decide) hd_X9_tellsOf ⟨rfl, rfl⟩ ⟨Nat.le_of_ble_eq_true rfl, Nat.le_of_ble_eq_true rfl⟩ hl.1 rfl (Nat.le_of_ble_eq_true rfl) dX9_foldLine_92 ⟨Nat.zero_le _, Nat.zero_le _⟩ (fun i74 g74 H locs hq hT hS => ?_)
          obtain ⟨hR74, hf74⟩ := hq
          have hF74 := Fr_tr hF68 hf74 (by decide)
          have hP74 : (i74 96 7).toInt ≤ (i74 96 6).toInt := by rw [show i74 96 = _ from (hf74).1 96 (by decide)]; exact hP68
          have hQ74_i : prg i i74 := prg_f hQ68_i hf74 (by decide)
          exact hret _ _ _ _ _ _ dX9_foldLine_95 hT hS ⟨hR74, hF74, hP74, hQ74_i⟩
set_option maxRecDepth 100000 in
set_option maxHeartbeats 4000000 in
theorem m_X9_hasRead_5 {l : Launch} {D : va_G} {h : Nat → Nat} {cz : Nat → ClassId} {z : EZ} {i : Nat → Nat → Int32} {g : Nat → Nat → Int64} (hR : Rg rA i) (a_a : Int32) (ha_a : rg 5 5 a_a) : DtI l yX9_hasRead cX9_hasRead 2 (some .int) ({ frames := 0, cells := 0, slots := 0, locals := 0 } : Room) D h cz z i g [.ref (h 96), .int a_a] (fun r u => u = (i, g) ∧ rg 0 8 r ∧ (r = i 103 33)) := by
  refine e_I pn_X9_hasRead (Nat.le_of_ble_eq_true rfl) ?_
  intro p e s m args below meth c ls Q X Y hret hT hl hS
  have hx := X.1
  have hb := X.2.1
  have hl : lv_has ls 2 [(0, .ref (h 96)), (1, .int a_a)] := hl
  refine lv_aload_n hx hb dX9_hasRead_0 rfl (lv_at hl 0 rfl) ?_
  refine r_getr X hT 96 17 103 fk_9_34 rfl rfl (by decide) dX9_hasRead_1 ?_
  refine lv_bipush (v := 28) hx hb dX9_hasRead_4 (by decide) ?_
  refine lv_iload_n hx hb dX9_hasRead_6 rfl (lv_at hl 1 rfl) ?_
  refine q_iadd hx hb dX9_hasRead_7 (fun x1 ex1 => ?_)
  obtain ⟨hx1, ax1⟩ := rg_add 33 33 ex1 (rg_k (by decide) : rg 28 28 28) ha_a (by decide)
  replace ax1 : x1.toInt = 28 + a_a.toInt := ax1
  refine r_ialdc X hT 103 33 rfl (by decide) (v_in hx1 (by decide)) (cl_c hx1 33 rfl (by decide)) dX9_hasRead_8 ?_
  exact hret (i 103 33) _ _ _ _ _ _ dX9_hasRead_9 hT hS ⟨rfl, (Rg_at hR 103 33 0 8 (by decide) rfl), rfl⟩
set_option maxRecDepth 100000 in
set_option maxHeartbeats 4000000 in
theorem m_X9_isRoom_5 {l : Launch} {D : va_G} {h : Nat → Nat} {cz : Nat → ClassId} {z : EZ} {i : Nat → Nat → Int32} {g : Nat → Nat → Int64} (hR : Rg rA i) (a_a : Int32) (a_b : Int32) (a_c : Int32) (ha_a : rg 0 1 a_a) (ha_b : rg 5 5 a_b) (ha_c : rg 8 8 a_c) (hp0 : (i 96 7).toInt ≤ (i 96 6).toInt) : DtI l yX9_isRoom cX9_isRoom 4 (some .boolean) ({ frames := 2, cells := 0, slots := 0, locals := 44 } : Room) D h cz z i g [.ref (h 96), .int a_a, .int a_b, .int a_c] (fun r u => (Rg rA u.1 ∧ Fr [96] [96] i g u ∧ r = 1 ∧ ((u.1 96 7).toInt ≤ (u.1 96 6).toInt) ∧ rg 1 1 a_a ∧ rg 0 7 (u.1 103 33) ∧ prg i u.1) ∨ (Rg rA u.1 ∧ Fr [96] [96] i g u ∧ r = 0 ∧ rg 0 0 a_a ∧ u = (i, g)) ∨ (Rg rA u.1 ∧ Fr [96] [96] i g u ∧ r = 0 ∧ ((u.1 96 7).toInt ≤ (u.1 96 6).toInt) ∧ rg 1 3 (u.1 96 12) ∧ prg i u.1)) := by
  refine e_Z (fun v u hq => (hq.elim (fun hq => (Or.inr hq.2.2.1)) (fun hq => (hq.elim (fun hq => (Or.inl hq.2.2.1)) (fun hq => (Or.inl hq.2.2.1)))))) pn_X9_isRoom (Nat.le_of_ble_eq_true rfl) ?_
  intro p e s m args below meth c ls Q X Y hret hT hl hS
  have hx := X.1
  have hb := X.2.1
  have hl : lv_has ls 4 [(0, .ref (h 96)), (1, .int a_a), (2, .int a_b), (3, .int a_c)] := hl
  have hF : Fr [96] [96] i g (i, g) := Fr_rf _ _ _ _
  refine lv_iload_n hx hb dX9_isRoom_0 rfl (lv_at hl 1 rfl) ?_
  refine lv_if_eq (tgt := 18) hx hb dX9_isRoom_1 (by decide) (fun c1 => ?_) (fun c1 => ?_)
  ·
    have q1 : a_a.toInt = 0 := i_eq c1
    have h2 : rg 0 0 a_a := t_eqx 0 0 ha_a (rg_k (by decide) : rg 0 0 0) (i_eq c1) (by decide)
    refine lv_iload_n hx hb dX9_isRoom_18 rfl (lv_at hl 1 rfl) ?_
    refine lv_if_eq (tgt := 33) hx hb dX9_isRoom_19 (by decide) (fun c3 => ?_) (fun c3 => (x_ne h2 (rg_k (by decide) : rg 0 0 0) (i_ne c3) (by decide)).elim)
    have q3 : a_a.toInt = 0 := i_eq c3
    refine lv_iload_n hx hb dX9_isRoom_33 rfl (lv_at hl 1 rfl) ?_
    refine lv_if_eq (tgt := 48) hx hb dX9_isRoom_34 (by decide) (fun c4 => ?_) (fun c4 => (x_ne h2 (rg_k (by decide) : rg 0 0 0) (i_ne c4) (by decide)).elim)
    have q4 : a_a.toInt = 0 := i_eq c4
    refine lv_iconst (v := 0) hx hb dX9_isRoom_48 (by decide) ?_
    exact hret 0 _ _ _ _ _ _ dX9_isRoom_49 hT hS (Or.inr (Or.inl ⟨hR, hF, rfl, h2, rfl⟩))
  ·
    have q1 : ¬ a_a.toInt = 0 := i_ne c1
    have h5 : rg 1 1 a_a := t_nelo 1 ha_a (rg_k (by decide) : rg 0 0 0) (i_ne c1) (by decide)
    refine lv_aload_n hx hb dX9_isRoom_4 rfl (lv_at hl 0 rfl) ?_
    refine lv_iload_n hx hb dX9_isRoom_5 rfl (lv_at hl 2 rfl) ?_
    refine e_Vi (As := [.int a_b]) (rest := []) X Y hT hS (m_X9_hasRead_5 hR a_b ha_b) mk_X9_hasRead gm_1596 rfl rfl (by decide) hd_X9_hasRead ⟨rfl, rfl⟩ ⟨Nat.le_of_ble_eq_true rfl, Nat.le_of_ble_eq_true rfl⟩ hl.1 rfl (Nat.le_of_ble_eq_true rfl) dX9_isRoom_6 ⟨Nat.zero_le _, Nat.zero_le _⟩ (fun r6 i6 g6 H locs hq hT hS => ?_)
    obtain ⟨eh6, hr6, hf6_0⟩ := hq
    rw [(Prod.mk.inj eh6).1, (Prod.mk.inj eh6).2] at hT
    replace hf6_0 : r6 = (i 103 33) := hf6_0
    have h7 : rg 0 8 r6 := rg_of hf6_0 (Rg_at hR 103 33 0 8 (by decide) rfl)
    refine lv_iload_n hx hb dX9_isRoom_9 rfl (lv_at hl 3 rfl) ?_
    refine lv_icmp_ne (tgt := 18) hx hb dX9_isRoom_10 (by decide) (fun c8 => ?_) (fun c8 => ?_)
    ·
      have q8 : ¬ r6.toInt = a_c.toInt := i_ne c8
      have h9 : rg 0 7 r6 := t_nehi 7 h7 ha_c (i_ne c8) (by decide)
      have h10 : rg 0 7 (i 103 33) := rg_fo hf6_0 h9
      refine lv_iload_n hx hb dX9_isRoom_18 rfl (lv_at hl 1 rfl) ?_
      refine lv_if_eq (tgt := 33) hx hb dX9_isRoom_19 (by decide) (fun c11 => (x_eq h5 (rg_k (by decide) : rg 0 0 0) (i_eq c11) (by decide)).elim) (fun c11 => ?_)
      have q11 : ¬ a_a.toInt = 0 := i_ne c11
      refine lv_aload_n hx hb dX9_isRoom_22 rfl (lv_at hl 0 rfl) ?_
      refine r_geti X hT 96 12 fk_9_135 rfl rfl (by decide) dX9_isRoom_23 ?_
      refine lv_if_ne (tgt := 33) hx hb dX9_isRoom_26 (by decide) (fun c12 => ?_) (fun c12 => ?_)
      ·
        have q12 : ¬ (i 96 12).toInt = 0 := i_ne c12
        have h13 : rg 1 3 (i 96 12) := t_nelo 1 (Rg_at hR 96 12 0 3 (by decide) rfl) (rg_k (by decide) : rg 0 0 0) (i_ne c12) (by decide)
        refine lv_iload_n hx hb dX9_isRoom_33 rfl (lv_at hl 1 rfl) ?_
        refine lv_if_eq (tgt := 48) hx hb dX9_isRoom_34 (by decide) (fun c14 => (x_eq h5 (rg_k (by decide) : rg 0 0 0) (i_eq c14) (by decide)).elim) (fun c14 => ?_)
        have q14 : ¬ a_a.toInt = 0 := i_ne c14
        refine lv_aload_n hx hb dX9_isRoom_37 rfl (lv_at hl 0 rfl) ?_
        refine r_geti X hT 96 12 fk_9_135 rfl rfl (by decide) dX9_isRoom_38 ?_
        refine lv_if_ne (tgt := 48) hx hb dX9_isRoom_41 (by decide) (fun c15 => ?_) (fun c15 => (x_eq h13 (rg_k (by decide) : rg 0 0 0) (i_eq c15) (by decide)).elim)
        have q15 : ¬ (i 96 12).toInt = 0 := i_ne c15
        refine lv_iconst (v := 0) hx hb dX9_isRoom_48 (by decide) ?_
        exact hret 0 _ _ _ _ _ _ dX9_isRoom_49 hT hS (Or.inr (Or.inr ⟨hR, hF, rfl, hp0, h13, (prg_rf i)⟩))
      ·
        have q12 : (i 96 12).toInt = 0 := i_eq c12
        have h16 : rg 0 0 (i 96 12) := t_eqx 0 0 (Rg_at hR 96 12 0 3 (by decide) rfl) (rg_k (by decide) : rg 0 0 0) (i_eq c12) (by decide)
        refine lv_aload_n hx hb dX9_isRoom_29 rfl (lv_at hl 0 rfl) ?_
        refine e_Vv (As := []) (rest := []) X Y hT hS (m_X9_follows hR hp0) mk_X9_follows gm_1542 rfl rfl (by decide) hd_X9_follows ⟨rfl, rfl⟩ ⟨Nat.le_of_ble_eq_true rfl, Nat.le_of_ble_eq_true rfl⟩ hl.1 rfl (Nat.le_of_ble_eq_true rfl) dX9_isRoom_30 ⟨Nat.zero_le _, Nat.zero_le _⟩ (fun i17 g17 H locs hq hT hS => ?_)
        obtain ⟨hR17, hf17, hp17_0, hf17_0, hf17_1⟩ := hq
        have hF17 := Fr_tr hF hf17 (by decide)
        replace hp17_0 : (i17 96 7).toInt ≤ (i17 96 6).toInt := hp17_0
        have hQ18_i : prg i i17 := prg_tr (prg_rf i) hf17_0
        refine lv_iload_n hx hb dX9_isRoom_33 rfl (lv_at hl 1 rfl) ?_
        refine lv_if_eq (tgt := 48) hx hb dX9_isRoom_34 (by decide) (fun c19 => (x_eq h5 (rg_k (by decide) : rg 0 0 0) (i_eq c19) (by decide)).elim) (fun c19 => ?_)
        have q19 : ¬ a_a.toInt = 0 := i_ne c19
        refine lv_aload_n hx hb dX9_isRoom_37 rfl (lv_at hl 0 rfl) ?_
        refine r_geti X hT 96 12 fk_9_135 rfl rfl (by decide) dX9_isRoom_38 ?_
        have e20 : (i17 96 12) = (i 96 12) := hf17_1
        have h21 : rg 0 0 (i17 96 12) := rg_of e20 h16
        refine lv_if_ne (tgt := 48) hx hb dX9_isRoom_41 (by decide) (fun c22 => (x_ne h21 (rg_k (by decide) : rg 0 0 0) (i_ne c22) (by decide)).elim) (fun c22 => ?_)
        have q22 : (i17 96 12).toInt = 0 := i_eq c22
        refine lv_iconst (v := 1) hx hb dX9_isRoom_44 (by decide) ?_
        refine lv_goto (tgt := 49) hx hb dX9_isRoom_45 (by decide) ?_
        have e23 : (i17 103 33) = (i 103 33) := (z_F hf17 rfl (by decide))
        have h24 : rg 0 7 (i17 103 33) := rg_of e23 h10
        exact hret 1 _ _ _ _ _ _ dX9_isRoom_49 hT hS (Or.inl ⟨hR17, hF17, rfl, hp17_0, h5, h24, hQ18_i⟩)
    ·
      have q8 : r6.toInt = a_c.toInt := i_eq c8
      have h25 : rg 8 8 r6 := t_eqx 8 8 h7 ha_c (i_eq c8) (by decide)
      have h26 : rg 8 8 (i 103 33) := rg_fo hf6_0 h25
      refine lv_aload_n hx hb dX9_isRoom_13 rfl (lv_at hl 0 rfl) ?_
      refine lv_iconst (v := 3) hx hb dX9_isRoom_14 (by decide) ?_
      refine e_Vv (As := [.int 3]) (rest := []) X Y hT hS (m_X9_fails hR (3) (rg_w (rg_k (by decide) : rg 3 3 3) (by decide) : rg 1 3 3) hp0) mk_X9_fails gm_1572 rfl rfl (by decide) hd_X9_fails ⟨rfl, rfl⟩ ⟨Nat.le_of_ble_eq_true rfl, Nat.le_of_ble_eq_true rfl⟩ hl.1 rfl (Nat.le_of_ble_eq_true rfl) dX9_isRoom_15 ⟨Nat.zero_le _, Nat.zero_le _⟩ (fun i27 g27 H locs hq hT hS => ?_)
      obtain ⟨hR27, hf27, hp27_0, hf27_0, hf27_1⟩ := hq
      have hF27 := Fr_tr hF hf27 (by decide)
      replace hp27_0 : (i27 96 7).toInt ≤ (i27 96 6).toInt := hp27_0
      have h28 : rg 1 3 (i27 96 12) := hf27_0
      have hQ29_i : prg i i27 := prg_tr (prg_rf i) hf27_1
      refine lv_iload_n hx hb dX9_isRoom_18 rfl (lv_at hl 1 rfl) ?_
      refine lv_if_eq (tgt := 33) hx hb dX9_isRoom_19 (by decide) (fun c30 => (x_eq h5 (rg_k (by decide) : rg 0 0 0) (i_eq c30) (by decide)).elim) (fun c30 => ?_)
      have q30 : ¬ a_a.toInt = 0 := i_ne c30
      refine lv_aload_n hx hb dX9_isRoom_22 rfl (lv_at hl 0 rfl) ?_
      refine r_geti X hT 96 12 fk_9_135 rfl rfl (by decide) dX9_isRoom_23 ?_
      refine lv_if_ne (tgt := 33) hx hb dX9_isRoom_26 (by decide) (fun c31 => ?_) (fun c31 => (x_eq h28 (rg_k (by decide) : rg 0 0 0) (i_eq c31) (by decide)).elim)
      have q31 : ¬ (i27 96 12).toInt = 0 := i_ne c31
      refine lv_iload_n hx hb dX9_isRoom_33 rfl (lv_at hl 1 rfl) ?_
      refine lv_if_eq (tgt := 48) hx hb dX9_isRoom_34 (by decide) (fun c32 => (x_eq h5 (rg_k (by decide) : rg 0 0 0) (i_eq c32) (by decide)).elim) (fun c32 => ?_)
      have q32 : ¬ a_a.toInt = 0 := i_ne c32
      refine lv_aload_n hx hb dX9_isRoom_37 rfl (lv_at hl 0 rfl) ?_
      refine r_geti X hT 96 12 fk_9_135 rfl rfl (by decide) dX9_isRoom_38 ?_
      refine lv_if_ne (tgt := 48) hx hb dX9_isRoom_41 (by decide) (fun c33 => ?_) (fun c33 => (x_eq h28 (rg_k (by decide) : rg 0 0 0) (i_eq c33) (by decide)).elim)
      have q33 : ¬ (i27 96 12).toInt = 0 := i_ne c33
      refine lv_iconst (v := 0) hx hb dX9_isRoom_48 (by decide) ?_
      exact hret 0 _ _ _ _ _ _ dX9_isRoom_49 hT hS (Or.inr (Or.inr ⟨hR27, hF27, rfl, hp27_0, h28, hQ29_i⟩))
