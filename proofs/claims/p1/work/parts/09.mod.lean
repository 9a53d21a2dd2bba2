set_option maxRecDepth 100000 in
set_option maxHeartbeats 4000000 in
theorem k_X9_parts {l : Launch} {D : va_G} {h : Nat → Nat} {cz : Nat → ClassId} {i : Nat → Nat → Int32} {g : Nat → Nat → Int64} (hR : Rg rM i)  : CtI l yX9_parts cX9_parts 1 (some .int) ({ frames := 0, cells := 0, slots := 0, locals := 0 } : Room) D h cz i g [.ref (h 96)] (fun r u => u = (i, g) ∧ r = 0) := by
  refine k_I pn_X9_parts (Nat.le_of_ble_eq_true rfl) ?_
  intro p e s m args below meth c ls Q X hret hT hl hS
  have hx := X.1
  have hb := X.2.1
  have hl : lv_has ls 1 [(0, .ref (h 96))] := hl
  refine lv_aload_n hx hb dX9_parts_0 rfl (lv_at hl 0 rfl) ?_
  refine r_getr X hT 96 17 103 fk_9_34 rfl rfl (by decide) dX9_parts_1 ?_
  refine lv_iconst (v := 3) hx hb dX9_parts_4 (by decide) ?_
  refine r_iald X hT 103 rfl (by decide) (v_in (rg_k (by decide) : rg 3 3 3) (by decide)) dX9_parts_5 ?_
  exact hret (i 103 (3 : Int32).toNatClampNeg) _ _ _ _ _ _ dX9_parts_6 hT hS ⟨rfl, (rg_c (Rg_at hR 103 (3 : Int32).toNatClampNeg 0 0 (v_lt (v_in (rg_k (by decide) : rg 3 3 3) (by decide))) rfl))⟩

set_option maxRecDepth 100000 in
set_option maxHeartbeats 4000000 in
theorem k_in {l : Launch} {D : va_G} {h : Nat → Nat} {cz : Nat → ClassId} {i : Nat → Nat → Int32} {g : Nat → Nat → Int64} (a_a : Int64) (a_b : Int64) (a_c : Int64) : CtI l yX9_in cX9_in 6 (some .boolean) ({ frames := 0, cells := 0, slots := 0, locals := 0 } : Room) D h cz i g [.long a_a, .long a_b, .long a_c] (fun r u => (u = (i, g) ∧ r = 1 ∧ (a_b.toInt ≤ a_a.toInt ∧ a_a.toInt ≤ a_c.toInt)) ∨ (u = (i, g) ∧ r = 0 ∧ (a_a.toInt < a_b.toInt ∨ a_c.toInt < a_a.toInt))) := by
  refine k_Z (by intro v u hq; rcases hq with ⟨-, hq, -⟩ | ⟨-, hq, -⟩ <;> first | exact Or.inl hq | exact Or.inr hq) pn_X9_in (Nat.le_of_ble_eq_true rfl) ?_
  intro p e s m args below meth c ls Q X hret hT hl hS
  have hx := X.1
  have hb := X.2.1
  have hl : lv_has ls 6 [(0, .long a_a), (2, .long a_b), (4, .long a_c)] := hl
  refine lv_lload_n hx hb dX9_in_0 rfl (lv_at hl 0 rfl) ?_
  refine lv_lload_n hx hb dX9_in_1 rfl (lv_at hl 1 rfl) ?_
  refine W.lcmp hx hb dX9_in_2 ?_
  refine lv_if_lt (tgt := 17) hx hb dX9_in_3 (by decide) (fun c1 => ?_) (fun c1 => ?_)
  ·
    have q1 : a_a.toInt < a_b.toInt := c_lt c1
    have h2 : rgL (-9223372036854775808) 9223372036854775806 a_a := tL_ltx (-9223372036854775808) 9223372036854775806 (rgL_top a_a) (rgL_top a_b) (c_lt c1) (by decide)
    have h3 : rgL (-9223372036854775807) 9223372036854775807 a_b := tL_lty (-9223372036854775807) 9223372036854775807 (rgL_top a_a) (rgL_top a_b) (c_lt c1) (by decide)
    refine lv_iconst (v := 0) hx hb dX9_in_17 (by decide) ?_
    exact hret 0 _ _ _ _ _ _ dX9_in_18 hT hS (Or.inr ⟨rfl, rfl, (by omega)⟩)
  ·
    have q1 : a_b.toInt ≤ a_a.toInt := c_nlt c1
    refine lv_lload_n hx hb dX9_in_6 rfl (lv_at hl 0 rfl) ?_
    refine lv_lload hx hb dX9_in_7 (lv_at hl 2 rfl) ?_
    refine W.lcmp hx hb dX9_in_9 ?_
    refine lv_if_gt (tgt := 17) hx hb dX9_in_10 (by decide) (fun c4 => ?_) (fun c4 => ?_)
    ·
      have q4 : a_c.toInt < a_a.toInt := c_gt c4
      have h5 : rgL (-9223372036854775808) 9223372036854775806 a_c := tL_ltx (-9223372036854775808) 9223372036854775806 (rgL_top a_c) (rgL_top a_a) (c_gt c4) (by decide)
      have h6 : rgL (-9223372036854775807) 9223372036854775807 a_a := tL_lty (-9223372036854775807) 9223372036854775807 (rgL_top a_c) (rgL_top a_a) (c_gt c4) (by decide)
      refine lv_iconst (v := 0) hx hb dX9_in_17 (by decide) ?_
      exact hret 0 _ _ _ _ _ _ dX9_in_18 hT hS (Or.inr ⟨rfl, rfl, (by omega)⟩)
    ·
      have q4 : a_a.toInt ≤ a_c.toInt := c_ngt c4
      refine lv_iconst (v := 1) hx hb dX9_in_13 (by decide) ?_
      refine lv_goto (tgt := 18) hx hb dX9_in_14 (by decide) ?_
      exact hret 1 _ _ _ _ _ _ dX9_in_18 hT hS (Or.inl ⟨rfl, rfl, (by omega)⟩)

set_option maxRecDepth 100000 in
set_option maxHeartbeats 4000000 in
theorem k_X9_isPart {l : Launch} {D : va_G} {h : Nat → Nat} {cz : Nat → ClassId} {i : Nat → Nat → Int32} {g : Nat → Nat → Int64} (hR : Rg rM i) (a_a : Int64) : CtI l yX9_isPart cX9_isPart 3 (some .boolean) ({ frames := 1, cells := 0, slots := 0, locals := 25 } : Room) D h cz i g [.ref (h 96), .long a_a] (fun r u => u = (i, g) ∧ r = 0) := by
  refine k_Z (by intro v u hq; obtain ⟨-, hq⟩ := hq; exact Or.inl hq) pn_X9_isPart (Nat.le_of_ble_eq_true rfl) ?_
  intro p e s m args below meth c ls Q X hret hT hl hS
  have hx := X.1
  have hb := X.2.1
  have hl : lv_has ls 3 [(0, .ref (h 96)), (1, .long a_a)] := hl
  refine lv_lload_n hx hb dX9_isPart_0 rfl (lv_at hl 1 rfl) ?_
  refine lv_lconst (v := 0) hx hb dX9_isPart_1 (by decide) ?_
  refine lv_aload_n hx hb dX9_isPart_2 rfl (lv_at hl 0 rfl) ?_
  refine r_Vi (As := []) (rest := [.long 0, .long a_a]) X hT hS (k_X9_parts hR) mk_X9_parts gm_1649 rfl rfl (by decide) hd_X9_parts ⟨rfl, rfl⟩ ⟨Nat.le_of_ble_eq_true rfl, Nat.le_of_ble_eq_true rfl⟩ hl.1 rfl (Nat.le_of_ble_eq_true rfl) dX9_isPart_3 ⟨Nat.zero_le _, Nat.zero_le _⟩ (fun r1 i1 g1 H locs hq hT hS => ?_)
  obtain ⟨eh1, rfl⟩ := hq
  rw [(Prod.mk.inj eh1).1, (Prod.mk.inj eh1).2] at hT
  refine q_i2l hx hb dX9_isPart_6 (fun y2 ey2 => ?_)
  obtain ⟨hy2, ay2⟩ := rg_i2l ey2 (rg_k (by decide) : rg 0 0 0)
  refine lv_lconst (v := 1) hx hb dX9_isPart_7 (by decide) ?_
  refine q_lsub hx hb dX9_isPart_8 (fun y3 ey3 => ?_)
  obtain ⟨hy3, ay3⟩ := rgL_sub (-1) (-1) ey3 hy2 (rgL_k (by decide) : rgL 1 1 1) (by decide)
  refine r_Si (As := [.long a_a, .long 0, .long y3]) (rest := []) X hT hS (k_in a_a (0) y3) sk_X9_in gm_1496 hd_X9_in ⟨rfl, rfl⟩ ⟨Nat.le_of_ble_eq_true rfl, Nat.le_of_ble_eq_true rfl⟩ hl.1 rfl (Nat.le_of_ble_eq_true rfl) dX9_isPart_9 ⟨Nat.zero_le _, Nat.zero_le _⟩ (fun r4 i4 g4 H locs hq hT hS => ?_)
  rcases hq with hq | hq
  ·
    obtain ⟨eh4, rfl, hf4_0⟩ := hq
    rw [(Prod.mk.inj eh4).1, (Prod.mk.inj eh4).2] at hT
    replace hf4_0 : 0 ≤ a_a.toInt ∧ a_a.toInt ≤ y3.toInt := hf4_0
    exact (by have := (rgL_top a_a).1; have := (rgL_top a_a).2; have := hy3.1; have := hy3.2; omega : False).elim
  ·
    obtain ⟨eh4, rfl, hf4_0⟩ := hq
    rw [(Prod.mk.inj eh4).1, (Prod.mk.inj eh4).2] at hT
    replace hf4_0 : a_a.toInt < 0 ∨ y3.toInt < a_a.toInt := hf4_0
    exact hret 0 _ _ _ _ _ _ dX9_isPart_12 hT hS ⟨rfl, rfl⟩

set_option maxRecDepth 100000 in
set_option maxHeartbeats 4000000 in
theorem k_X9_part {l : Launch} {D : va_G} {h : Nat → Nat} {cz : Nat → ClassId} {i : Nat → Nat → Int32} {g : Nat → Nat → Int64} (hR : Rg rM i) (a_a : Int32) (a_b : Int32) : CtI l yX9_part cX9_part 3 (some .int) ({ frames := 2, cells := 0, slots := 0, locals := 47 } : Room) D h cz i g [.ref (h 96), .int a_a, .int a_b] (fun r u => Rg rM u.1 ∧ r = (-2)) := by
  refine k_I pn_X9_part (Nat.le_of_ble_eq_true rfl) ?_
  intro p e s m args below meth c ls Q X hret hT hl hS
  have hx := X.1
  have hb := X.2.1
  have hl : lv_has ls 3 [(0, .ref (h 96)), (1, .int a_a), (2, .int a_b)] := hl
  refine lv_aload_n hx hb dX9_part_0 rfl (lv_at hl 0 rfl) ?_
  refine lv_iconst (v := 0) hx hb dX9_part_1 (by decide) ?_
  refine r_puti X hT hS 96 0 pk_9_83 rfl rfl rfl rfl (by decide) dX9_part_2 (fun H locs i1 ei1 hT hS => ?_)
  have hR1 := Rg_put hR ei1 0 0 rfl (rg_k (by decide) : rg 0 0 0) (by decide)
  refine lv_aload_n hx hb dX9_part_5 rfl (lv_at hl 0 rfl) ?_
  refine lv_iload_n hx hb dX9_part_6 rfl (lv_at hl 1 rfl) ?_
  refine q_i2l hx hb dX9_part_7 (fun y2 ey2 => ?_)
  obtain ⟨hy2, ay2⟩ := rg_i2l ey2 (rg_top a_a)
  refine r_Vi (As := [.long y2]) (rest := []) X hT hS (k_X9_isPart hR1 y2) mk_X9_isPart gm_1645 rfl rfl (by decide) hd_X9_isPart ⟨rfl, rfl⟩ ⟨Nat.le_of_ble_eq_true rfl, Nat.le_of_ble_eq_true rfl⟩ hl.1 rfl (Nat.le_of_ble_eq_true rfl) dX9_part_8 ⟨Nat.zero_le _, Nat.zero_le _⟩ (fun r3 i3 g3 H locs hq hT hS => ?_)
  obtain ⟨eh3, rfl⟩ := hq
  rw [(Prod.mk.inj eh3).1, (Prod.mk.inj eh3).2] at hT
  refine lv_if_eq (tgt := 39) hx hb dX9_part_11 (by decide) (fun c4 => ?_) (fun c4 => (x_ne (rg_k (by decide) : rg 0 0 0) (rg_k (by decide) : rg 0 0 0) (i_ne c4) (by decide)).elim)
  refine lv_bipush (v := (-2)) hx hb dX9_part_39 (by decide) ?_
  exact hret (-2) _ _ _ _ _ _ dX9_part_41 hT hS ⟨hR1, rfl⟩

set_option maxRecDepth 100000 in
set_option maxHeartbeats 4000000 in
theorem k_X9_near {l : Launch} {D : va_G} {h : Nat → Nat} {cz : Nat → ClassId} {i : Nat → Nat → Int32} {g : Nat → Nat → Int64} (hR : Rg rM i) (a_a : Int32) : CtI l yX9_near cX9_near 2 (some .int) ({ frames := 2, cells := 0, slots := 0, locals := 47 } : Room) D h cz i g [.ref (h 96), .int a_a] (fun r u => Rg rM u.1 ∧ r = (-2)) := by
  refine k_I pn_X9_near (Nat.le_of_ble_eq_true rfl) ?_
  intro p e s m args below meth c ls Q X hret hT hl hS
  have hx := X.1
  have hb := X.2.1
  have hl : lv_has ls 2 [(0, .ref (h 96)), (1, .int a_a)] := hl
  refine lv_aload_n hx hb dX9_near_0 rfl (lv_at hl 0 rfl) ?_
  refine lv_iconst (v := 0) hx hb dX9_near_1 (by decide) ?_
  refine r_puti X hT hS 96 0 pk_9_83 rfl rfl rfl rfl (by decide) dX9_near_2 (fun H locs i1 ei1 hT hS => ?_)
  have hR1 := Rg_put hR ei1 0 0 rfl (rg_k (by decide) : rg 0 0 0) (by decide)
  refine lv_aload_n hx hb dX9_near_5 rfl (lv_at hl 0 rfl) ?_
  refine lv_iload_n hx hb dX9_near_6 rfl (lv_at hl 1 rfl) ?_
  refine q_i2l hx hb dX9_near_7 (fun y2 ey2 => ?_)
  obtain ⟨hy2, ay2⟩ := rg_i2l ey2 (rg_top a_a)
  refine r_Vi (As := [.long y2]) (rest := []) X hT hS (k_X9_isPart hR1 y2) mk_X9_isPart gm_1645 rfl rfl (by decide) hd_X9_isPart ⟨rfl, rfl⟩ ⟨Nat.le_of_ble_eq_true rfl, Nat.le_of_ble_eq_true rfl⟩ hl.1 rfl (Nat.le_of_ble_eq_true rfl) dX9_near_8 ⟨Nat.zero_le _, Nat.zero_le _⟩ (fun r3 i3 g3 H locs hq hT hS => ?_)
  obtain ⟨eh3, rfl⟩ := hq
  rw [(Prod.mk.inj eh3).1, (Prod.mk.inj eh3).2] at hT
  refine lv_if_ne (tgt := 17) hx hb dX9_near_11 (by decide) (fun c4 => (x_ne (rg_k (by decide) : rg 0 0 0) (rg_k (by decide) : rg 0 0 0) (i_ne c4) (by decide)).elim) (fun c4 => ?_)
  refine lv_bipush (v := (-2)) hx hb dX9_near_14 (by decide) ?_
  exact hret (-2) _ _ _ _ _ _ dX9_near_16 hT hS ⟨hR1, rfl⟩

set_option maxRecDepth 100000 in
set_option maxHeartbeats 4000000 in
theorem k_X9_far {l : Launch} {D : va_G} {h : Nat → Nat} {cz : Nat → ClassId} {i : Nat → Nat → Int32} {g : Nat → Nat → Int64} (hR : Rg rM i) (a_a : Int32) (a_b : Int32) : CtI l yX9_far cX9_far 7 (some .int) ({ frames := 2, cells := 0, slots := 0, locals := 47 } : Room) D h cz i g [.ref (h 96), .int a_a, .int a_b] (fun r u => Rg rM u.1 ∧ r = (-2)) := by
  refine k_I pn_X9_far (Nat.le_of_ble_eq_true rfl) ?_
  intro p e s m args below meth c ls Q X hret hT hl hS
  have hx := X.1
  have hb := X.2.1
  have hl : lv_has ls 7 [(0, .ref (h 96)), (1, .int a_a), (2, .int a_b)] := hl
  refine lv_aload_n hx hb dX9_far_0 rfl (lv_at hl 0 rfl) ?_
  refine lv_iconst (v := 0) hx hb dX9_far_1 (by decide) ?_
  refine r_puti X hT hS 96 0 pk_9_83 rfl rfl rfl rfl (by decide) dX9_far_2 (fun H locs i1 ei1 hT hS => ?_)
  have hR1 := Rg_put hR ei1 0 0 rfl (rg_k (by decide) : rg 0 0 0) (by decide)
  refine lv_aload_n hx hb dX9_far_5 rfl (lv_at hl 0 rfl) ?_
  refine lv_iload_n hx hb dX9_far_6 rfl (lv_at hl 1 rfl) ?_
  refine q_i2l hx hb dX9_far_7 (fun y2 ey2 => ?_)
  obtain ⟨hy2, ay2⟩ := rg_i2l ey2 (rg_top a_a)
  refine r_Vi (As := [.long y2]) (rest := []) X hT hS (k_X9_isPart hR1 y2) mk_X9_isPart gm_1645 rfl rfl (by decide) hd_X9_isPart ⟨rfl, rfl⟩ ⟨Nat.le_of_ble_eq_true rfl, Nat.le_of_ble_eq_true rfl⟩ hl.1 rfl (Nat.le_of_ble_eq_true rfl) dX9_far_8 ⟨Nat.zero_le _, Nat.zero_le _⟩ (fun r3 i3 g3 H locs hq hT hS => ?_)
  obtain ⟨eh3, rfl⟩ := hq
  rw [(Prod.mk.inj eh3).1, (Prod.mk.inj eh3).2] at hT
  refine lv_if_eq (tgt := 23) hx hb dX9_far_11 (by decide) (fun c4 => ?_) (fun c4 => (x_ne (rg_k (by decide) : rg 0 0 0) (rg_k (by decide) : rg 0 0 0) (i_ne c4) (by decide)).elim)
  refine lv_bipush (v := (-2)) hx hb dX9_far_23 (by decide) ?_
  exact hret (-2) _ _ _ _ _ _ dX9_far_25 hT hS ⟨hR1, rfl⟩

set_option maxRecDepth 100000 in
set_option maxHeartbeats 4000000 in
theorem k_X9_isThen {l : Launch} {D : va_G} {h : Nat → Nat} {cz : Nat → ClassId} {i : Nat → Nat → Int32} {g : Nat → Nat → Int64} (hR : Rg rM i) (a_a : Int32) (a_b : Int32) : CtI l yX9_isThen cX9_isThen 3 (some .boolean) ({ frames := 2, cells := 0, slots := 0, locals := 47 } : Room) D h cz i g [.ref (h 96), .int a_a, .int a_b] (fun r u => u = (i, g) ∧ r = 0) := by
  refine k_Z (by intro v u hq; obtain ⟨-, hq⟩ := hq; exact Or.inl hq) pn_X9_isThen (Nat.le_of_ble_eq_true rfl) ?_
  intro p e s m args below meth c ls Q X hret hT hl hS
  have hx := X.1
  have hb := X.2.1
  have hl : lv_has ls 3 [(0, .ref (h 96)), (1, .int a_a), (2, .int a_b)] := hl
  refine lv_aload_n hx hb dX9_isThen_0 rfl (lv_at hl 0 rfl) ?_
  refine lv_iload_n hx hb dX9_isThen_1 rfl (lv_at hl 1 rfl) ?_
  refine q_i2l hx hb dX9_isThen_2 (fun y1 ey1 => ?_)
  obtain ⟨hy1, ay1⟩ := rg_i2l ey1 (rg_top a_a)
  refine r_Vi (As := [.long y1]) (rest := []) X hT hS (k_X9_isPart hR y1) mk_X9_isPart gm_1645 rfl rfl (by decide) hd_X9_isPart ⟨rfl, rfl⟩ ⟨Nat.le_of_ble_eq_true rfl, Nat.le_of_ble_eq_true rfl⟩ hl.1 rfl (Nat.le_of_ble_eq_true rfl) dX9_isThen_3 ⟨Nat.zero_le _, Nat.zero_le _⟩ (fun r2 i2 g2 H locs hq hT hS => ?_)
  obtain ⟨eh2, rfl⟩ := hq
  rw [(Prod.mk.inj eh2).1, (Prod.mk.inj eh2).2] at hT
  refine lv_if_eq (tgt := 22) hx hb dX9_isThen_6 (by decide) (fun c3 => ?_) (fun c3 => (x_ne (rg_k (by decide) : rg 0 0 0) (rg_k (by decide) : rg 0 0 0) (i_ne c3) (by decide)).elim)
  refine lv_iconst (v := 0) hx hb dX9_isThen_22 (by decide) ?_
  exact hret 0 _ _ _ _ _ _ dX9_isThen_23 hT hS ⟨rfl, rfl⟩

set_option maxRecDepth 100000 in
set_option maxHeartbeats 4000000 in
theorem k_X9_stiff {l : Launch} {D : va_G} {h : Nat → Nat} {cz : Nat → ClassId} {i : Nat → Nat → Int32} {g : Nat → Nat → Int64} (hR : Rg rM i) (a_a : Int32) (a_b : Int32) : CtI l yX9_stiff cX9_stiff 3 (some .int) ({ frames := 3, cells := 0, slots := 0, locals := 69 } : Room) D h cz i g [.ref (h 96), .int a_a, .int a_b] (fun r u => Rg rM u.1 ∧ r = (-2)) := by
  refine k_I pn_X9_stiff (Nat.le_of_ble_eq_true rfl) ?_
  intro p e s m args below meth c ls Q X hret hT hl hS
  have hx := X.1
  have hb := X.2.1
  have hl : lv_has ls 3 [(0, .ref (h 96)), (1, .int a_a), (2, .int a_b)] := hl
  refine lv_aload_n hx hb dX9_stiff_0 rfl (lv_at hl 0 rfl) ?_
  refine lv_iconst (v := 0) hx hb dX9_stiff_1 (by decide) ?_
  refine r_puti X hT hS 96 0 pk_9_83 rfl rfl rfl rfl (by decide) dX9_stiff_2 (fun H locs i1 ei1 hT hS => ?_)
  have hR1 := Rg_put hR ei1 0 0 rfl (rg_k (by decide) : rg 0 0 0) (by decide)
  refine lv_aload_n hx hb dX9_stiff_5 rfl (lv_at hl 0 rfl) ?_
  refine lv_iload_n hx hb dX9_stiff_6 rfl (lv_at hl 1 rfl) ?_
  refine lv_iload_n hx hb dX9_stiff_7 rfl (lv_at hl 2 rfl) ?_
  refine r_Vi (As := [.int a_a, .int a_b]) (rest := []) X hT hS (k_X9_isThen hR1 a_a a_b) mk_X9_isThen gm_1677 rfl rfl (by decide) hd_X9_isThen ⟨rfl, rfl⟩ ⟨Nat.le_of_ble_eq_true rfl, Nat.le_of_ble_eq_true rfl⟩ hl.1 rfl (Nat.le_of_ble_eq_true rfl) dX9_stiff_8 ⟨Nat.zero_le _, Nat.zero_le _⟩ (fun r2 i2 g2 H locs hq hT hS => ?_)
  obtain ⟨eh2, rfl⟩ := hq
  rw [(Prod.mk.inj eh2).1, (Prod.mk.inj eh2).2] at hT
  refine lv_if_ne (tgt := 17) hx hb dX9_stiff_11 (by decide) (fun c3 => (x_ne (rg_k (by decide) : rg 0 0 0) (rg_k (by decide) : rg 0 0 0) (i_ne c3) (by decide)).elim) (fun c3 => ?_)
  refine lv_bipush (v := (-2)) hx hb dX9_stiff_14 (by decide) ?_
  exact hret (-2) _ _ _ _ _ _ dX9_stiff_16 hT hS ⟨hR1, rfl⟩

set_option maxRecDepth 100000 in
set_option maxHeartbeats 4000000 in
theorem k_X9_isTale {l : Launch} {D : va_G} {h : Nat → Nat} {cz : Nat → ClassId} {i : Nat → Nat → Int32} {g : Nat → Nat → Int64} (hR : Rg rM i)  : CtI l yX9_isTale cX9_isTale 1 (some .boolean) ({ frames := 0, cells := 0, slots := 0, locals := 0 } : Room) D h cz i g [.ref (h 96)] (fun r u => u = (i, g) ∧ r = 0) := by
  refine k_Z (by intro v u hq; obtain ⟨-, hq⟩ := hq; exact Or.inl hq) pn_X9_isTale (Nat.le_of_ble_eq_true rfl) ?_
  intro p e s m args below meth c ls Q X hret hT hl hS
  have hx := X.1
  have hb := X.2.1
  have hl : lv_has ls 1 [(0, .ref (h 96))] := hl
  refine lv_aload_n hx hb dX9_isTale_0 rfl (lv_at hl 0 rfl) ?_
  refine r_getr X hT 96 16 102 fk_9_31 rfl rfl (by decide) dX9_isTale_1 ?_
  refine lv_iconst (v := 0) hx hb dX9_isTale_4 (by decide) ?_
  refine r_iald X hT 102 rfl (by decide) (v_in (rg_k (by decide) : rg 0 0 0) (by decide)) dX9_isTale_5 ?_
  refine lv_if_le (tgt := 13) hx hb dX9_isTale_6 (by decide) (fun c1 => ?_) (fun c1 => (x_lt (rg_k (by decide) : rg 0 0 0) (Rg_at hR 102 (0 : Int32).toNatClampNeg 0 0 (v_lt (v_in (rg_k (by decide) : rg 0 0 0) (by decide))) rfl) (i_nle c1) (by decide)).elim)
  have q1 : (i 102 (0 : Int32).toNatClampNeg).toInt ≤ 0 := i_le c1
  refine lv_iconst (v := 0) hx hb dX9_isTale_13 (by decide) ?_
  exact hret 0 _ _ _ _ _ _ dX9_isTale_14 hT hS ⟨rfl, rfl⟩

set_option maxRecDepth 100000 in
set_option maxHeartbeats 4000000 in
theorem k_X9_isYear {l : Launch} {D : va_G} {h : Nat → Nat} {cz : Nat → ClassId} {i : Nat → Nat → Int32} {g : Nat → Nat → Int64} (hR : Rg rM i) (a_a : Int64) : CtI l yX9_isYear cX9_isYear 3 (some .boolean) ({ frames := 1, cells := 0, slots := 0, locals := 20 } : Room) D h cz i g [.ref (h 96), .long a_a] (fun r u => u = (i, g) ∧ r = 0) := by
  refine k_Z (by intro v u hq; obtain ⟨-, hq⟩ := hq; exact Or.inl hq) pn_X9_isYear (Nat.le_of_ble_eq_true rfl) ?_
  intro p e s m args below meth c ls Q X hret hT hl hS
  have hx := X.1
  have hb := X.2.1
  have hl : lv_has ls 3 [(0, .ref (h 96)), (1, .long a_a)] := hl
  refine lv_aload_n hx hb dX9_isYear_0 rfl (lv_at hl 0 rfl) ?_
  refine r_Vi (As := []) (rest := []) X hT hS (k_X9_isTale hR) mk_X9_isTale gm_1685 rfl rfl (by decide) hd_X9_isTale ⟨rfl, rfl⟩ ⟨Nat.le_of_ble_eq_true rfl, Nat.le_of_ble_eq_true rfl⟩ hl.1 rfl (Nat.le_of_ble_eq_true rfl) dX9_isYear_1 ⟨Nat.zero_le _, Nat.zero_le _⟩ (fun r1 i1 g1 H locs hq hT hS => ?_)
  obtain ⟨eh1, rfl⟩ := hq
  rw [(Prod.mk.inj eh1).1, (Prod.mk.inj eh1).2] at hT
  refine lv_if_eq (tgt := 24) hx hb dX9_isYear_4 (by decide) (fun c2 => ?_) (fun c2 => (x_ne (rg_k (by decide) : rg 0 0 0) (rg_k (by decide) : rg 0 0 0) (i_ne c2) (by decide)).elim)
  refine lv_iconst (v := 0) hx hb dX9_isYear_24 (by decide) ?_
  exact hret 0 _ _ _ _ _ _ dX9_isYear_25 hT hS ⟨rfl, rfl⟩

set_option maxRecDepth 100000 in
set_option maxHeartbeats 4000000 in
theorem k_X9_open {l : Launch} {D : va_G} {h : Nat → Nat} {cz : Nat → ClassId} {i : Nat → Nat → Int32} {g : Nat → Nat → Int64} (hR : Rg rM i) (a_a : Int32) : CtI l yX9_open cX9_open 2 (some .int) ({ frames := 2, cells := 0, slots := 0, locals := 42 } : Room) D h cz i g [.ref (h 96), .int a_a] (fun r u => Rg rM u.1 ∧ r = (-2)) := by
  refine k_I pn_X9_open (Nat.le_of_ble_eq_true rfl) ?_
  intro p e s m args below meth c ls Q X hret hT hl hS
  have hx := X.1
  have hb := X.2.1
  have hl : lv_has ls 2 [(0, .ref (h 96)), (1, .int a_a)] := hl
  refine lv_aload_n hx hb dX9_open_0 rfl (lv_at hl 0 rfl) ?_
  refine lv_iconst (v := 0) hx hb dX9_open_1 (by decide) ?_
  refine r_puti X hT hS 96 0 pk_9_83 rfl rfl rfl rfl (by decide) dX9_open_2 (fun H locs i1 ei1 hT hS => ?_)
  have hR1 := Rg_put hR ei1 0 0 rfl (rg_k (by decide) : rg 0 0 0) (by decide)
  refine lv_aload_n hx hb dX9_open_5 rfl (lv_at hl 0 rfl) ?_
  refine lv_iload_n hx hb dX9_open_6 rfl (lv_at hl 1 rfl) ?_
  refine q_i2l hx hb dX9_open_7 (fun y2 ey2 => ?_)
  obtain ⟨hy2, ay2⟩ := rg_i2l ey2 (rg_top a_a)
  refine r_Vi (As := [.long y2]) (rest := []) X hT hS (k_X9_isYear hR1 y2) mk_X9_isYear gm_1681 rfl rfl (by decide) hd_X9_isYear ⟨rfl, rfl⟩ ⟨Nat.le_of_ble_eq_true rfl, Nat.le_of_ble_eq_true rfl⟩ hl.1 rfl (Nat.le_of_ble_eq_true rfl) dX9_open_8 ⟨Nat.zero_le _, Nat.zero_le _⟩ (fun r3 i3 g3 H locs hq hT hS => ?_)
  obtain ⟨eh3, rfl⟩ := hq
  rw [(Prod.mk.inj eh3).1, (Prod.mk.inj eh3).2] at hT
  refine lv_if_ne (tgt := 17) hx hb dX9_open_11 (by decide) (fun c4 => (x_ne (rg_k (by decide) : rg 0 0 0) (rg_k (by decide) : rg 0 0 0) (i_ne c4) (by decide)).elim) (fun c4 => ?_)
  refine lv_bipush (v := (-2)) hx hb dX9_open_14 (by decide) ?_
  exact hret (-2) _ _ _ _ _ _ dX9_open_16 hT hS ⟨hR1, rfl⟩

set_option maxRecDepth 100000 in
set_option maxHeartbeats 4000000 in
theorem k_X9_when {l : Launch} {D : va_G} {h : Nat → Nat} {cz : Nat → ClassId} {i : Nat → Nat → Int32} {g : Nat → Nat → Int64} (hR : Rg rM i) (a_a : Int32) : CtI l yX9_when cX9_when 2 (some .int) ({ frames := 2, cells := 0, slots := 0, locals := 47 } : Room) D h cz i g [.ref (h 96), .int a_a] (fun r u => Rg rM u.1 ∧ r = (-2)) := by
  refine k_I pn_X9_when (Nat.le_of_ble_eq_true rfl) ?_
  intro p e s m args below meth c ls Q X hret hT hl hS
  have hx := X.1
  have hb := X.2.1
  have hl : lv_has ls 2 [(0, .ref (h 96)), (1, .int a_a)] := hl
  refine lv_aload_n hx hb dX9_when_0 rfl (lv_at hl 0 rfl) ?_
  refine lv_iconst (v := 0) hx hb dX9_when_1 (by decide) ?_
  refine r_puti X hT hS 96 0 pk_9_83 rfl rfl rfl rfl (by decide) dX9_when_2 (fun H locs i1 ei1 hT hS => ?_)
  have hR1 := Rg_put hR ei1 0 0 rfl (rg_k (by decide) : rg 0 0 0) (by decide)
  refine lv_aload_n hx hb dX9_when_5 rfl (lv_at hl 0 rfl) ?_
  refine lv_iload_n hx hb dX9_when_6 rfl (lv_at hl 1 rfl) ?_
  refine q_i2l hx hb dX9_when_7 (fun y2 ey2 => ?_)
  obtain ⟨hy2, ay2⟩ := rg_i2l ey2 (rg_top a_a)
  refine r_Vi (As := [.long y2]) (rest := []) X hT hS (k_X9_isPart hR1 y2) mk_X9_isPart gm_1645 rfl rfl (by decide) hd_X9_isPart ⟨rfl, rfl⟩ ⟨Nat.le_of_ble_eq_true rfl, Nat.le_of_ble_eq_true rfl⟩ hl.1 rfl (Nat.le_of_ble_eq_true rfl) dX9_when_8 ⟨Nat.zero_le _, Nat.zero_le _⟩ (fun r3 i3 g3 H locs hq hT hS => ?_)
  obtain ⟨eh3, rfl⟩ := hq
  rw [(Prod.mk.inj eh3).1, (Prod.mk.inj eh3).2] at hT
  refine lv_if_ne (tgt := 17) hx hb dX9_when_11 (by decide) (fun c4 => (x_ne (rg_k (by decide) : rg 0 0 0) (rg_k (by decide) : rg 0 0 0) (i_ne c4) (by decide)).elim) (fun c4 => ?_)
  refine lv_bipush (v := (-2)) hx hb dX9_when_14 (by decide) ?_
  exact hret (-2) _ _ _ _ _ _ dX9_when_16 hT hS ⟨hR1, rfl⟩

set_option maxRecDepth 100000 in
set_option maxHeartbeats 4000000 in
theorem k_X9_how {l : Launch} {D : va_G} {h : Nat → Nat} {cz : Nat → ClassId} {i : Nat → Nat → Int32} {g : Nat → Nat → Int64} (hR : Rg rM i) (a_a : Int32) : CtI l yX9_how cX9_how 2 (some .int) ({ frames := 2, cells := 0, slots := 0, locals := 47 } : Room) D h cz i g [.ref (h 96), .int a_a] (fun r u => Rg rM u.1 ∧ r = (-2)) := by
  refine k_I pn_X9_how (Nat.le_of_ble_eq_true rfl) ?_
  intro p e s m args below meth c ls Q X hret hT hl hS
  have hx := X.1
  have hb := X.2.1
  have hl : lv_has ls 2 [(0, .ref (h 96)), (1, .int a_a)] := hl
  refine lv_aload_n hx hb dX9_how_0 rfl (lv_at hl 0 rfl) ?_
  refine lv_iconst (v := 0) hx hb dX9_how_1 (by decide) ?_
  refine r_puti X hT hS 96 0 pk_9_83 rfl rfl rfl rfl (by decide) dX9_how_2 (fun H locs i1 ei1 hT hS => ?_)
  have hR1 := Rg_put hR ei1 0 0 rfl (rg_k (by decide) : rg 0 0 0) (by decide)
  refine lv_aload_n hx hb dX9_how_5 rfl (lv_at hl 0 rfl) ?_
  refine lv_iload_n hx hb dX9_how_6 rfl (lv_at hl 1 rfl) ?_
  refine q_i2l hx hb dX9_how_7 (fun y2 ey2 => ?_)
  obtain ⟨hy2, ay2⟩ := rg_i2l ey2 (rg_top a_a)
  refine r_Vi (As := [.long y2]) (rest := []) X hT hS (k_X9_isPart hR1 y2) mk_X9_isPart gm_1645 rfl rfl (by decide) hd_X9_isPart ⟨rfl, rfl⟩ ⟨Nat.le_of_ble_eq_true rfl, Nat.le_of_ble_eq_true rfl⟩ hl.1 rfl (Nat.le_of_ble_eq_true rfl) dX9_how_8 ⟨Nat.zero_le _, Nat.zero_le _⟩ (fun r3 i3 g3 H locs hq hT hS => ?_)
  obtain ⟨eh3, rfl⟩ := hq
  rw [(Prod.mk.inj eh3).1, (Prod.mk.inj eh3).2] at hT
  refine lv_if_ne (tgt := 17) hx hb dX9_how_11 (by decide) (fun c4 => (x_ne (rg_k (by decide) : rg 0 0 0) (rg_k (by decide) : rg 0 0 0) (i_ne c4) (by decide)).elim) (fun c4 => ?_)
  refine lv_bipush (v := (-2)) hx hb dX9_how_14 (by decide) ?_
  exact hret (-2) _ _ _ _ _ _ dX9_how_16 hT hS ⟨hR1, rfl⟩

set_option maxRecDepth 100000 in
set_option maxHeartbeats 4000000 in
theorem k_X9_read {l : Launch} {D : va_G} {h : Nat → Nat} {cz : Nat → ClassId} {i : Nat → Nat → Int32} {g : Nat → Nat → Int64} (hR : Rg rM i) (a_a : Int32) : CtI l yX9_read cX9_read 2 (some .int) ({ frames := 2, cells := 0, slots := 0, locals := 47 } : Room) D h cz i g [.ref (h 96), .int a_a] (fun r u => Rg rM u.1 ∧ r = (-2)) := by
  refine k_I pn_X9_read (Nat.le_of_ble_eq_true rfl) ?_
  intro p e s m args below meth c ls Q X hret hT hl hS
  have hx := X.1
  have hb := X.2.1
  have hl : lv_has ls 2 [(0, .ref (h 96)), (1, .int a_a)] := hl
  refine lv_aload_n hx hb dX9_read_0 rfl (lv_at hl 0 rfl) ?_
  refine lv_iconst (v := 0) hx hb dX9_read_1 (by decide) ?_
  refine r_puti X hT hS 96 0 pk_9_83 rfl rfl rfl rfl (by decide) dX9_read_2 (fun H locs i1 ei1 hT hS => ?_)
  have hR1 := Rg_put hR ei1 0 0 rfl (rg_k (by decide) : rg 0 0 0) (by decide)
  refine lv_aload_n hx hb dX9_read_5 rfl (lv_at hl 0 rfl) ?_
  refine lv_iload_n hx hb dX9_read_6 rfl (lv_at hl 1 rfl) ?_
  refine q_i2l hx hb dX9_read_7 (fun y2 ey2 => ?_)
  obtain ⟨hy2, ay2⟩ := rg_i2l ey2 (rg_top a_a)
  refine r_Vi (As := [.long y2]) (rest := []) X hT hS (k_X9_isPart hR1 y2) mk_X9_isPart gm_1645 rfl rfl (by decide) hd_X9_isPart ⟨rfl, rfl⟩ ⟨Nat.le_of_ble_eq_true rfl, Nat.le_of_ble_eq_true rfl⟩ hl.1 rfl (Nat.le_of_ble_eq_true rfl) dX9_read_8 ⟨Nat.zero_le _, Nat.zero_le _⟩ (fun r3 i3 g3 H locs hq hT hS => ?_)
  obtain ⟨eh3, rfl⟩ := hq
  rw [(Prod.mk.inj eh3).1, (Prod.mk.inj eh3).2] at hT
  refine lv_if_ne (tgt := 17) hx hb dX9_read_11 (by decide) (fun c4 => (x_ne (rg_k (by decide) : rg 0 0 0) (rg_k (by decide) : rg 0 0 0) (i_ne c4) (by decide)).elim) (fun c4 => ?_)
  refine lv_bipush (v := (-2)) hx hb dX9_read_14 (by decide) ?_
  exact hret (-2) _ _ _ _ _ _ dX9_read_16 hT hS ⟨hR1, rfl⟩

set_option maxRecDepth 100000 in
set_option maxHeartbeats 4000000 in
theorem k_X9_years {l : Launch} {D : va_G} {h : Nat → Nat} {cz : Nat → ClassId} {i : Nat → Nat → Int32} {g : Nat → Nat → Int64} (hR : Rg rM i)  : CtI l yX9_years cX9_years 1 (some .int) ({ frames := 0, cells := 0, slots := 0, locals := 0 } : Room) D h cz i g [.ref (h 96)] (fun r u => u = (i, g) ∧ r = 0) := by
  refine k_I pn_X9_years (Nat.le_of_ble_eq_true rfl) ?_
  intro p e s m args below meth c ls Q X hret hT hl hS
  have hx := X.1
  have hb := X.2.1
  have hl : lv_has ls 1 [(0, .ref (h 96))] := hl
  refine lv_aload_n hx hb dX9_years_0 rfl (lv_at hl 0 rfl) ?_
  refine r_getr X hT 96 17 103 fk_9_34 rfl rfl (by decide) dX9_years_1 ?_
  refine lv_iconst (v := 0) hx hb dX9_years_4 (by decide) ?_
  refine r_iald X hT 103 rfl (by decide) (v_in (rg_k (by decide) : rg 0 0 0) (by decide)) dX9_years_5 ?_
  exact hret (i 103 (0 : Int32).toNatClampNeg) _ _ _ _ _ _ dX9_years_6 hT hS ⟨rfl, (rg_c (Rg_at hR 103 (0 : Int32).toNatClampNeg 0 0 (v_lt (v_in (rg_k (by decide) : rg 0 0 0) (by decide))) rfl))⟩

set_option maxRecDepth 100000 in
set_option maxHeartbeats 4000000 in
theorem k_X9_isAhead {l : Launch} {D : va_G} {h : Nat → Nat} {cz : Nat → ClassId} {i : Nat → Nat → Int32} {g : Nat → Nat → Int64} (hR : Rg rM i) (a_a : Int32) : CtI l yX9_isAhead cX9_isAhead 2 (some .boolean) ({ frames := 1, cells := 0, slots := 0, locals := 25 } : Room) D h cz i g [.ref (h 96), .int a_a] (fun r u => u = (i, g) ∧ r = 0) := by
  refine k_Z (by intro v u hq; obtain ⟨-, hq⟩ := hq; exact Or.inl hq) pn_X9_isAhead (Nat.le_of_ble_eq_true rfl) ?_
  intro p e s m args below meth c ls Q X hret hT hl hS
  have hx := X.1
  have hb := X.2.1
  have hl : lv_has ls 2 [(0, .ref (h 96)), (1, .int a_a)] := hl
  refine lv_iload_n hx hb dX9_isAhead_0 rfl (lv_at hl 1 rfl) ?_
  refine q_i2l hx hb dX9_isAhead_1 (fun y1 ey1 => ?_)
  obtain ⟨hy1, ay1⟩ := rg_i2l ey1 (rg_top a_a)
  refine lv_lconst (v := 0) hx hb dX9_isAhead_2 (by decide) ?_
  refine lv_aload_n hx hb dX9_isAhead_3 rfl (lv_at hl 0 rfl) ?_
  refine r_Vi (As := []) (rest := [.long 0, .long y1]) X hT hS (k_X9_years hR) mk_X9_years gm_1689 rfl rfl (by decide) hd_X9_years ⟨rfl, rfl⟩ ⟨Nat.le_of_ble_eq_true rfl, Nat.le_of_ble_eq_true rfl⟩ hl.1 rfl (Nat.le_of_ble_eq_true rfl) dX9_isAhead_4 ⟨Nat.zero_le _, Nat.zero_le _⟩ (fun r2 i2 g2 H locs hq hT hS => ?_)
  obtain ⟨eh2, rfl⟩ := hq
  rw [(Prod.mk.inj eh2).1, (Prod.mk.inj eh2).2] at hT
  refine q_i2l hx hb dX9_isAhead_7 (fun y3 ey3 => ?_)
  obtain ⟨hy3, ay3⟩ := rg_i2l ey3 (rg_k (by decide) : rg 0 0 0)
  refine lv_lconst (v := 1) hx hb dX9_isAhead_8 (by decide) ?_
  refine q_lsub hx hb dX9_isAhead_9 (fun y4 ey4 => ?_)
  obtain ⟨hy4, ay4⟩ := rgL_sub (-1) (-1) ey4 hy3 (rgL_k (by decide) : rgL 1 1 1) (by decide)
  refine r_Si (As := [.long y1, .long 0, .long y4]) (rest := []) X hT hS (k_in y1 (0) y4) sk_X9_in gm_1496 hd_X9_in ⟨rfl, rfl⟩ ⟨Nat.le_of_ble_eq_true rfl, Nat.le_of_ble_eq_true rfl⟩ hl.1 rfl (Nat.le_of_ble_eq_true rfl) dX9_isAhead_10 ⟨Nat.zero_le _, Nat.zero_le _⟩ (fun r5 i5 g5 H locs hq hT hS => ?_)
  rcases hq with hq | hq
  ·
    obtain ⟨eh5, rfl, hf5_0⟩ := hq
    rw [(Prod.mk.inj eh5).1, (Prod.mk.inj eh5).2] at hT
    replace hf5_0 : 0 ≤ y1.toInt ∧ y1.toInt ≤ y4.toInt := hf5_0
    exact (by have := hy1.1; have := hy1.2; have := hy4.1; have := hy4.2; omega : False).elim
  ·
    obtain ⟨eh5, rfl, hf5_0⟩ := hq
    rw [(Prod.mk.inj eh5).1, (Prod.mk.inj eh5).2] at hT
    replace hf5_0 : y1.toInt < 0 ∨ y4.toInt < y1.toInt := hf5_0
    exact hret 0 _ _ _ _ _ _ dX9_isAhead_13 hT hS ⟨rfl, rfl⟩

set_option maxRecDepth 100000 in
set_option maxHeartbeats 4000000 in
theorem k_X9_reads {l : Launch} {D : va_G} {h : Nat → Nat} {cz : Nat → ClassId} {i : Nat → Nat → Int32} {g : Nat → Nat → Int64} (hR : Rg rM i) (a_a : Int32) : CtI l yX9_reads cX9_reads 2 (some .int) ({ frames := 2, cells := 0, slots := 0, locals := 46 } : Room) D h cz i g [.ref (h 96), .int a_a] (fun r u => Rg rM u.1 ∧ r = (-2)) := by
  refine k_I pn_X9_reads (Nat.le_of_ble_eq_true rfl) ?_
  intro p e s m args below meth c ls Q X hret hT hl hS
  have hx := X.1
  have hb := X.2.1
  have hl : lv_has ls 2 [(0, .ref (h 96)), (1, .int a_a)] := hl
  refine lv_aload_n hx hb dX9_reads_0 rfl (lv_at hl 0 rfl) ?_
  refine lv_iconst (v := 0) hx hb dX9_reads_1 (by decide) ?_
  refine r_puti X hT hS 96 0 pk_9_83 rfl rfl rfl rfl (by decide) dX9_reads_2 (fun H locs i1 ei1 hT hS => ?_)
  have hR1 := Rg_put hR ei1 0 0 rfl (rg_k (by decide) : rg 0 0 0) (by decide)
  refine lv_aload_n hx hb dX9_reads_5 rfl (lv_at hl 0 rfl) ?_
  refine lv_iload_n hx hb dX9_reads_6 rfl (lv_at hl 1 rfl) ?_
  refine r_Vi (As := [.int a_a]) (rest := []) X hT hS (k_X9_isAhead hR1 a_a) mk_X9_isAhead gm_1758 rfl rfl (by decide) hd_X9_isAhead ⟨rfl, rfl⟩ ⟨Nat.le_of_ble_eq_true rfl, Nat.le_of_ble_eq_true rfl⟩ hl.1 rfl (Nat.le_of_ble_eq_true rfl) dX9_reads_7 ⟨Nat.zero_le _, Nat.zero_le _⟩ (fun r2 i2 g2 H locs hq hT hS => ?_)
  obtain ⟨eh2, rfl⟩ := hq
  rw [(Prod.mk.inj eh2).1, (Prod.mk.inj eh2).2] at hT
  refine lv_if_ne (tgt := 16) hx hb dX9_reads_10 (by decide) (fun c3 => (x_ne (rg_k (by decide) : rg 0 0 0) (rg_k (by decide) : rg 0 0 0) (i_ne c3) (by decide)).elim) (fun c3 => ?_)
  refine lv_bipush (v := (-2)) hx hb dX9_reads_13 (by decide) ?_
  exact hret (-2) _ _ _ _ _ _ dX9_reads_15 hT hS ⟨hR1, rfl⟩

set_option maxRecDepth 100000 in
set_option maxHeartbeats 4000000 in
theorem k_X9_all {l : Launch} {D : va_G} {h : Nat → Nat} {cz : Nat → ClassId} {i : Nat → Nat → Int32} {g : Nat → Nat → Int64} (hR : Rg rM i)  : CtI l yX9_all cX9_all 1 (some .int) ({ frames := 1, cells := 0, slots := 0, locals := 20 } : Room) D h cz i g [.ref (h 96)] (fun r u => Rg rM u.1 ∧ r = (-2)) := by
  refine k_I pn_X9_all (Nat.le_of_ble_eq_true rfl) ?_
  intro p e s m args below meth c ls Q X hret hT hl hS
  have hx := X.1
  have hb := X.2.1
  have hl : lv_has ls 1 [(0, .ref (h 96))] := hl
  refine lv_aload_n hx hb dX9_all_0 rfl (lv_at hl 0 rfl) ?_
  refine lv_iconst (v := 0) hx hb dX9_all_1 (by decide) ?_
  refine r_puti X hT hS 96 0 pk_9_83 rfl rfl rfl rfl (by decide) dX9_all_2 (fun H locs i1 ei1 hT hS => ?_)
  have hR1 := Rg_put hR ei1 0 0 rfl (rg_k (by decide) : rg 0 0 0) (by decide)
  refine lv_aload_n hx hb dX9_all_5 rfl (lv_at hl 0 rfl) ?_
  refine r_Vi (As := []) (rest := []) X hT hS (k_X9_isTale hR1) mk_X9_isTale gm_1685 rfl rfl (by decide) hd_X9_isTale ⟨rfl, rfl⟩ ⟨Nat.le_of_ble_eq_true rfl, Nat.le_of_ble_eq_true rfl⟩ hl.1 rfl (Nat.le_of_ble_eq_true rfl) dX9_all_6 ⟨Nat.zero_le _, Nat.zero_le _⟩ (fun r2 i2 g2 H locs hq hT hS => ?_)
  obtain ⟨eh2, rfl⟩ := hq
  rw [(Prod.mk.inj eh2).1, (Prod.mk.inj eh2).2] at hT
  refine lv_if_ne (tgt := 15) hx hb dX9_all_9 (by decide) (fun c3 => (x_ne (rg_k (by decide) : rg 0 0 0) (rg_k (by decide) : rg 0 0 0) (i_ne c3) (by decide)).elim) (fun c3 => ?_)
  refine lv_bipush (v := (-2)) hx hb dX9_all_12 (by decide) ?_
  exact hret (-2) _ _ _ _ _ _ dX9_all_14 hT hS ⟨hR1, rfl⟩

set_option maxRecDepth 100000 in
set_option maxHeartbeats 4000000 in
theorem k_X9_keeps {l : Launch} {D : va_G} {h : Nat → Nat} {cz : Nat → ClassId} {i : Nat → Nat → Int32} {g : Nat → Nat → Int64} (hR : Rg rM i) (a_a : Int32) (a_b : Int32) : CtI l yX9_keeps cX9_keeps 3 (some .int) ({ frames := 3, cells := 0, slots := 0, locals := 69 } : Room) D h cz i g [.ref (h 96), .int a_a, .int a_b] (fun r u => Rg rM u.1 ∧ r = (-2)) := by
  refine k_I pn_X9_keeps (Nat.le_of_ble_eq_true rfl) ?_
  intro p e s m args below meth c ls Q X hret hT hl hS
  have hx := X.1
  have hb := X.2.1
  have hl : lv_has ls 3 [(0, .ref (h 96)), (1, .int a_a), (2, .int a_b)] := hl
  refine lv_aload_n hx hb dX9_keeps_0 rfl (lv_at hl 0 rfl) ?_
  refine lv_iconst (v := 0) hx hb dX9_keeps_1 (by decide) ?_
  refine r_puti X hT hS 96 0 pk_9_83 rfl rfl rfl rfl (by decide) dX9_keeps_2 (fun H locs i1 ei1 hT hS => ?_)
  have hR1 := Rg_put hR ei1 0 0 rfl (rg_k (by decide) : rg 0 0 0) (by decide)
  refine lv_aload_n hx hb dX9_keeps_5 rfl (lv_at hl 0 rfl) ?_
  refine lv_iload_n hx hb dX9_keeps_6 rfl (lv_at hl 1 rfl) ?_
  refine lv_iload_n hx hb dX9_keeps_7 rfl (lv_at hl 2 rfl) ?_
  refine r_Vi (As := [.int a_a, .int a_b]) (rest := []) X hT hS (k_X9_isThen hR1 a_a a_b) mk_X9_isThen gm_1677 rfl rfl (by decide) hd_X9_isThen ⟨rfl, rfl⟩ ⟨Nat.le_of_ble_eq_true rfl, Nat.le_of_ble_eq_true rfl⟩ hl.1 rfl (Nat.le_of_ble_eq_true rfl) dX9_keeps_8 ⟨Nat.zero_le _, Nat.zero_le _⟩ (fun r2 i2 g2 H locs hq hT hS => ?_)
  obtain ⟨eh2, rfl⟩ := hq
  rw [(Prod.mk.inj eh2).1, (Prod.mk.inj eh2).2] at hT
  refine lv_if_ne (tgt := 17) hx hb dX9_keeps_11 (by decide) (fun c3 => (x_ne (rg_k (by decide) : rg 0 0 0) (rg_k (by decide) : rg 0 0 0) (i_ne c3) (by decide)).elim) (fun c3 => ?_)
  refine lv_bipush (v := (-2)) hx hb dX9_keeps_14 (by decide) ?_
  exact hret (-2) _ _ _ _ _ _ dX9_keeps_16 hT hS ⟨hR1, rfl⟩

set_option maxRecDepth 100000 in
set_option maxHeartbeats 4000000 in
theorem k_X9_waits {l : Launch} {D : va_G} {h : Nat → Nat} {cz : Nat → ClassId} {i : Nat → Nat → Int32} {g : Nat → Nat → Int64} (hR : Rg rM i) (a_a : Int32) : CtI l yX9_waits cX9_waits 4 (some .int) ({ frames := 2, cells := 0, slots := 0, locals := 42 } : Room) D h cz i g [.ref (h 96), .int a_a] (fun r u => Rg rM u.1 ∧ r = (-2)) := by
  refine k_I pn_X9_waits (Nat.le_of_ble_eq_true rfl) ?_
  intro p e s m args below meth c ls Q X hret hT hl hS
  have hx := X.1
  have hb := X.2.1
  have hl : lv_has ls 4 [(0, .ref (h 96)), (1, .int a_a)] := hl
  refine lv_aload_n hx hb dX9_waits_0 rfl (lv_at hl 0 rfl) ?_
  refine lv_iconst (v := 0) hx hb dX9_waits_1 (by decide) ?_
  refine r_puti X hT hS 96 0 pk_9_83 rfl rfl rfl rfl (by decide) dX9_waits_2 (fun H locs i1 ei1 hT hS => ?_)
  have hR1 := Rg_put hR ei1 0 0 rfl (rg_k (by decide) : rg 0 0 0) (by decide)
  refine lv_aload_n hx hb dX9_waits_5 rfl (lv_at hl 0 rfl) ?_
  refine lv_iload_n hx hb dX9_waits_6 rfl (lv_at hl 1 rfl) ?_
  refine q_i2l hx hb dX9_waits_7 (fun y2 ey2 => ?_)
  obtain ⟨hy2, ay2⟩ := rg_i2l ey2 (rg_top a_a)
  refine r_Vi (As := [.long y2]) (rest := []) X hT hS (k_X9_isYear hR1 y2) mk_X9_isYear gm_1681 rfl rfl (by decide) hd_X9_isYear ⟨rfl, rfl⟩ ⟨Nat.le_of_ble_eq_true rfl, Nat.le_of_ble_eq_true rfl⟩ hl.1 rfl (Nat.le_of_ble_eq_true rfl) dX9_waits_8 ⟨Nat.zero_le _, Nat.zero_le _⟩ (fun r3 i3 g3 H locs hq hT hS => ?_)
  obtain ⟨eh3, rfl⟩ := hq
  rw [(Prod.mk.inj eh3).1, (Prod.mk.inj eh3).2] at hT
  refine lv_if_ne (tgt := 17) hx hb dX9_waits_11 (by decide) (fun c4 => (x_ne (rg_k (by decide) : rg 0 0 0) (rg_k (by decide) : rg 0 0 0) (i_ne c4) (by decide)).elim) (fun c4 => ?_)
  refine lv_bipush (v := (-2)) hx hb dX9_waits_14 (by decide) ?_
  exact hret (-2) _ _ _ _ _ _ dX9_waits_16 hT hS ⟨hR1, rfl⟩

set_option maxRecDepth 100000 in
set_option maxHeartbeats 4000000 in
theorem k_X9_next {l : Launch} {D : va_G} {h : Nat → Nat} {cz : Nat → ClassId} {i : Nat → Nat → Int32} {g : Nat → Nat → Int64} (hR : Rg rM i) (a_a : Int32) : CtI l yX9_next cX9_next 4 (some .int) ({ frames := 2, cells := 0, slots := 0, locals := 42 } : Room) D h cz i g [.ref (h 96), .int a_a] (fun r u => Rg rM u.1 ∧ r = (-2)) := by
  refine k_I pn_X9_next (Nat.le_of_ble_eq_true rfl) ?_
  intro p e s m args below meth c ls Q X hret hT hl hS
  have hx := X.1
  have hb := X.2.1
  have hl : lv_has ls 4 [(0, .ref (h 96)), (1, .int a_a)] := hl
  refine lv_aload_n hx hb dX9_next_0 rfl (lv_at hl 0 rfl) ?_
  refine lv_iconst (v := 0) hx hb dX9_next_1 (by decide) ?_
  refine r_puti X hT hS 96 0 pk_9_83 rfl rfl rfl rfl (by decide) dX9_next_2 (fun H locs i1 ei1 hT hS => ?_)
  have hR1 := Rg_put hR ei1 0 0 rfl (rg_k (by decide) : rg 0 0 0) (by decide)
  refine lv_aload_n hx hb dX9_next_5 rfl (lv_at hl 0 rfl) ?_
  refine lv_iload_n hx hb dX9_next_6 rfl (lv_at hl 1 rfl) ?_
  refine q_i2l hx hb dX9_next_7 (fun y2 ey2 => ?_)
  obtain ⟨hy2, ay2⟩ := rg_i2l ey2 (rg_top a_a)
  refine r_Vi (As := [.long y2]) (rest := []) X hT hS (k_X9_isYear hR1 y2) mk_X9_isYear gm_1681 rfl rfl (by decide) hd_X9_isYear ⟨rfl, rfl⟩ ⟨Nat.le_of_ble_eq_true rfl, Nat.le_of_ble_eq_true rfl⟩ hl.1 rfl (Nat.le_of_ble_eq_true rfl) dX9_next_8 ⟨Nat.zero_le _, Nat.zero_le _⟩ (fun r3 i3 g3 H locs hq hT hS => ?_)
  obtain ⟨eh3, rfl⟩ := hq
  rw [(Prod.mk.inj eh3).1, (Prod.mk.inj eh3).2] at hT
  refine lv_if_ne (tgt := 17) hx hb dX9_next_11 (by decide) (fun c4 => (x_ne (rg_k (by decide) : rg 0 0 0) (rg_k (by decide) : rg 0 0 0) (i_ne c4) (by decide)).elim) (fun c4 => ?_)
  refine lv_bipush (v := (-2)) hx hb dX9_next_14 (by decide) ?_
  exact hret (-2) _ _ _ _ _ _ dX9_next_16 hT hS ⟨hR1, rfl⟩

set_option maxRecDepth 100000 in
set_option maxHeartbeats 4000000 in
theorem k_X9_dull {l : Launch} {D : va_G} {h : Nat → Nat} {cz : Nat → ClassId} {i : Nat → Nat → Int32} {g : Nat → Nat → Int64} (hR : Rg rM i) (a_a : Int32) : CtI l yX9_dull cX9_dull 4 (some .int) ({ frames := 2, cells := 0, slots := 0, locals := 42 } : Room) D h cz i g [.ref (h 96), .int a_a] (fun r u => Rg rM u.1 ∧ r = (-2)) := by
  refine k_I pn_X9_dull (Nat.le_of_ble_eq_true rfl) ?_
  intro p e s m args below meth c ls Q X hret hT hl hS
  have hx := X.1
  have hb := X.2.1
  have hl : lv_has ls 4 [(0, .ref (h 96)), (1, .int a_a)] := hl
  refine lv_aload_n hx hb dX9_dull_0 rfl (lv_at hl 0 rfl) ?_
  refine lv_iconst (v := 0) hx hb dX9_dull_1 (by decide) ?_
  refine r_puti X hT hS 96 0 pk_9_83 rfl rfl rfl rfl (by decide) dX9_dull_2 (fun H locs i1 ei1 hT hS => ?_)
  have hR1 := Rg_put hR ei1 0 0 rfl (rg_k (by decide) : rg 0 0 0) (by decide)
  refine lv_aload_n hx hb dX9_dull_5 rfl (lv_at hl 0 rfl) ?_
  refine lv_iload_n hx hb dX9_dull_6 rfl (lv_at hl 1 rfl) ?_
  refine q_i2l hx hb dX9_dull_7 (fun y2 ey2 => ?_)
  obtain ⟨hy2, ay2⟩ := rg_i2l ey2 (rg_top a_a)
  refine r_Vi (As := [.long y2]) (rest := []) X hT hS (k_X9_isYear hR1 y2) mk_X9_isYear gm_1681 rfl rfl (by decide) hd_X9_isYear ⟨rfl, rfl⟩ ⟨Nat.le_of_ble_eq_true rfl, Nat.le_of_ble_eq_true rfl⟩ hl.1 rfl (Nat.le_of_ble_eq_true rfl) dX9_dull_8 ⟨Nat.zero_le _, Nat.zero_le _⟩ (fun r3 i3 g3 H locs hq hT hS => ?_)
  obtain ⟨eh3, rfl⟩ := hq
  rw [(Prod.mk.inj eh3).1, (Prod.mk.inj eh3).2] at hT
  refine lv_if_ne (tgt := 17) hx hb dX9_dull_11 (by decide) (fun c4 => (x_ne (rg_k (by decide) : rg 0 0 0) (rg_k (by decide) : rg 0 0 0) (i_ne c4) (by decide)).elim) (fun c4 => ?_)
  refine lv_bipush (v := (-2)) hx hb dX9_dull_14 (by decide) ?_
  exact hret (-2) _ _ _ _ _ _ dX9_dull_16 hT hS ⟨hR1, rfl⟩

set_option maxRecDepth 100000 in
set_option maxHeartbeats 4000000 in
theorem k_X9_dies {l : Launch} {D : va_G} {h : Nat → Nat} {cz : Nat → ClassId} {i : Nat → Nat → Int32} {g : Nat → Nat → Int64} (hR : Rg rM i) (a_a : Int32) : CtI l yX9_dies cX9_dies 3 (some .int) ({ frames := 2, cells := 0, slots := 0, locals := 47 } : Room) D h cz i g [.ref (h 96), .int a_a] (fun r u => Rg rM u.1 ∧ r = (-2)) := by
  refine k_I pn_X9_dies (Nat.le_of_ble_eq_true rfl) ?_
  intro p e s m args below meth c ls Q X hret hT hl hS
  have hx := X.1
  have hb := X.2.1
  have hl : lv_has ls 3 [(0, .ref (h 96)), (1, .int a_a)] := hl
  refine lv_aload_n hx hb dX9_dies_0 rfl (lv_at hl 0 rfl) ?_
  refine lv_iconst (v := 0) hx hb dX9_dies_1 (by decide) ?_
  refine r_puti X hT hS 96 0 pk_9_83 rfl rfl rfl rfl (by decide) dX9_dies_2 (fun H locs i1 ei1 hT hS => ?_)
  have hR1 := Rg_put hR ei1 0 0 rfl (rg_k (by decide) : rg 0 0 0) (by decide)
  refine lv_aload_n hx hb dX9_dies_5 rfl (lv_at hl 0 rfl) ?_
  refine lv_iload_n hx hb dX9_dies_6 rfl (lv_at hl 1 rfl) ?_
  refine q_i2l hx hb dX9_dies_7 (fun y2 ey2 => ?_)
  obtain ⟨hy2, ay2⟩ := rg_i2l ey2 (rg_top a_a)
  refine r_Vi (As := [.long y2]) (rest := []) X hT hS (k_X9_isPart hR1 y2) mk_X9_isPart gm_1645 rfl rfl (by decide) hd_X9_isPart ⟨rfl, rfl⟩ ⟨Nat.le_of_ble_eq_true rfl, Nat.le_of_ble_eq_true rfl⟩ hl.1 rfl (Nat.le_of_ble_eq_true rfl) dX9_dies_8 ⟨Nat.zero_le _, Nat.zero_le _⟩ (fun r3 i3 g3 H locs hq hT hS => ?_)
  obtain ⟨eh3, rfl⟩ := hq
  rw [(Prod.mk.inj eh3).1, (Prod.mk.inj eh3).2] at hT
  refine lv_if_ne (tgt := 17) hx hb dX9_dies_11 (by decide) (fun c4 => (x_ne (rg_k (by decide) : rg 0 0 0) (rg_k (by decide) : rg 0 0 0) (i_ne c4) (by decide)).elim) (fun c4 => ?_)
  refine lv_bipush (v := (-2)) hx hb dX9_dies_14 (by decide) ?_
  exact hret (-2) _ _ _ _ _ _ dX9_dies_16 hT hS ⟨hR1, rfl⟩

set_option maxRecDepth 100000 in
set_option maxHeartbeats 4000000 in
theorem k_X9_ages {l : Launch} {D : va_G} {h : Nat → Nat} {cz : Nat → ClassId} {i : Nat → Nat → Int32} {g : Nat → Nat → Int64} (hR : Rg rM i) (a_a : Int32) : CtI l yX9_ages cX9_ages 2 (some .int) ({ frames := 2, cells := 0, slots := 0, locals := 47 } : Room) D h cz i g [.ref (h 96), .int a_a] (fun r u => Rg rM u.1 ∧ r = (-100)) := by
  refine k_I pn_X9_ages (Nat.le_of_ble_eq_true rfl) ?_
  intro p e s m args below meth c ls Q X hret hT hl hS
  have hx := X.1
  have hb := X.2.1
  have hl : lv_has ls 2 [(0, .ref (h 96)), (1, .int a_a)] := hl
  refine lv_aload_n hx hb dX9_ages_0 rfl (lv_at hl 0 rfl) ?_
  refine lv_iconst (v := 0) hx hb dX9_ages_1 (by decide) ?_
  refine r_puti X hT hS 96 0 pk_9_83 rfl rfl rfl rfl (by decide) dX9_ages_2 (fun H locs i1 ei1 hT hS => ?_)
  have hR1 := Rg_put hR ei1 0 0 rfl (rg_k (by decide) : rg 0 0 0) (by decide)
  refine lv_aload_n hx hb dX9_ages_5 rfl (lv_at hl 0 rfl) ?_
  refine lv_iload_n hx hb dX9_ages_6 rfl (lv_at hl 1 rfl) ?_
  refine q_i2l hx hb dX9_ages_7 (fun y2 ey2 => ?_)
  obtain ⟨hy2, ay2⟩ := rg_i2l ey2 (rg_top a_a)
  refine r_Vi (As := [.long y2]) (rest := []) X hT hS (k_X9_isPart hR1 y2) mk_X9_isPart gm_1645 rfl rfl (by decide) hd_X9_isPart ⟨rfl, rfl⟩ ⟨Nat.le_of_ble_eq_true rfl, Nat.le_of_ble_eq_true rfl⟩ hl.1 rfl (Nat.le_of_ble_eq_true rfl) dX9_ages_8 ⟨Nat.zero_le _, Nat.zero_le _⟩ (fun r3 i3 g3 H locs hq hT hS => ?_)
  obtain ⟨eh3, rfl⟩ := hq
  rw [(Prod.mk.inj eh3).1, (Prod.mk.inj eh3).2] at hT
  refine lv_if_ne (tgt := 17) hx hb dX9_ages_11 (by decide) (fun c4 => (x_ne (rg_k (by decide) : rg 0 0 0) (rg_k (by decide) : rg 0 0 0) (i_ne c4) (by decide)).elim) (fun c4 => ?_)
  refine lv_bipush (v := (-100)) hx hb dX9_ages_14 (by decide) ?_
  exact hret (-100) _ _ _ _ _ _ dX9_ages_16 hT hS ⟨hR1, rfl⟩

set_option maxRecDepth 100000 in
set_option maxHeartbeats 4000000 in
theorem k_X9_cut_ {l : Launch} {D : va_G} {h : Nat → Nat} {cz : Nat → ClassId} {i : Nat → Nat → Int32} {g : Nat → Nat → Int64} (hR : Rg rM i) (a_a : Int32) : CtI l yX9_cut_ cX9_cut_ 4 (some .int) ({ frames := 2, cells := 0, slots := 0, locals := 42 } : Room) D h cz i g [.ref (h 96), .int a_a] (fun r u => Rg rM u.1 ∧ r = (-2)) := by
  refine k_I pn_X9_cut_ (Nat.le_of_ble_eq_true rfl) ?_
  intro p e s m args below meth c ls Q X hret hT hl hS
  have hx := X.1
  have hb := X.2.1
  have hl : lv_has ls 4 [(0, .ref (h 96)), (1, .int a_a)] := hl
  refine lv_aload_n hx hb dX9_cut__0 rfl (lv_at hl 0 rfl) ?_
  refine lv_iconst (v := 0) hx hb dX9_cut__1 (by decide) ?_
  refine r_puti X hT hS 96 0 pk_9_83 rfl rfl rfl rfl (by decide) dX9_cut__2 (fun H locs i1 ei1 hT hS => ?_)
  have hR1 := Rg_put hR ei1 0 0 rfl (rg_k (by decide) : rg 0 0 0) (by decide)
  refine lv_aload_n hx hb dX9_cut__5 rfl (lv_at hl 0 rfl) ?_
  refine lv_iload_n hx hb dX9_cut__6 rfl (lv_at hl 1 rfl) ?_
  refine q_i2l hx hb dX9_cut__7 (fun y2 ey2 => ?_)
  obtain ⟨hy2, ay2⟩ := rg_i2l ey2 (rg_top a_a)
  refine r_Vi (As := [.long y2]) (rest := []) X hT hS (k_X9_isYear hR1 y2) mk_X9_isYear gm_1681 rfl rfl (by decide) hd_X9_isYear ⟨rfl, rfl⟩ ⟨Nat.le_of_ble_eq_true rfl, Nat.le_of_ble_eq_true rfl⟩ hl.1 rfl (Nat.le_of_ble_eq_true rfl) dX9_cut__8 ⟨Nat.zero_le _, Nat.zero_le _⟩ (fun r3 i3 g3 H locs hq hT hS => ?_)
  obtain ⟨eh3, rfl⟩ := hq
  rw [(Prod.mk.inj eh3).1, (Prod.mk.inj eh3).2] at hT
  refine lv_if_ne (tgt := 17) hx hb dX9_cut__11 (by decide) (fun c4 => (x_ne (rg_k (by decide) : rg 0 0 0) (rg_k (by decide) : rg 0 0 0) (i_ne c4) (by decide)).elim) (fun c4 => ?_)
  refine lv_bipush (v := (-2)) hx hb dX9_cut__14 (by decide) ?_
  exact hret (-2) _ _ _ _ _ _ dX9_cut__16 hT hS ⟨hR1, rfl⟩

set_option maxRecDepth 100000 in
set_option maxHeartbeats 4000000 in
theorem k_X9_sharp {l : Launch} {D : va_G} {h : Nat → Nat} {cz : Nat → ClassId} {i : Nat → Nat → Int32} {g : Nat → Nat → Int64} (hR : Rg rM i)  : CtI l yX9_sharp cX9_sharp 1 (some .int) ({ frames := 1, cells := 0, slots := 0, locals := 20 } : Room) D h cz i g [.ref (h 96)] (fun r u => Rg rM u.1 ∧ r = (-2)) := by
  refine k_I pn_X9_sharp (Nat.le_of_ble_eq_true rfl) ?_
  intro p e s m args below meth c ls Q X hret hT hl hS
  have hx := X.1
  have hb := X.2.1
  have hl : lv_has ls 1 [(0, .ref (h 96))] := hl
  refine lv_aload_n hx hb dX9_sharp_0 rfl (lv_at hl 0 rfl) ?_
  refine lv_iconst (v := 0) hx hb dX9_sharp_1 (by decide) ?_
  refine r_puti X hT hS 96 0 pk_9_83 rfl rfl rfl rfl (by decide) dX9_sharp_2 (fun H locs i1 ei1 hT hS => ?_)
  have hR1 := Rg_put hR ei1 0 0 rfl (rg_k (by decide) : rg 0 0 0) (by decide)
  refine lv_aload_n hx hb dX9_sharp_5 rfl (lv_at hl 0 rfl) ?_
  refine r_Vi (As := []) (rest := []) X hT hS (k_X9_isTale hR1) mk_X9_isTale gm_1685 rfl rfl (by decide) hd_X9_isTale ⟨rfl, rfl⟩ ⟨Nat.le_of_ble_eq_true rfl, Nat.le_of_ble_eq_true rfl⟩ hl.1 rfl (Nat.le_of_ble_eq_true rfl) dX9_sharp_6 ⟨Nat.zero_le _, Nat.zero_le _⟩ (fun r2 i2 g2 H locs hq hT hS => ?_)
  obtain ⟨eh2, rfl⟩ := hq
  rw [(Prod.mk.inj eh2).1, (Prod.mk.inj eh2).2] at hT
  refine lv_if_ne (tgt := 15) hx hb dX9_sharp_9 (by decide) (fun c3 => (x_ne (rg_k (by decide) : rg 0 0 0) (rg_k (by decide) : rg 0 0 0) (i_ne c3) (by decide)).elim) (fun c3 => ?_)
  refine lv_bipush (v := (-2)) hx hb dX9_sharp_12 (by decide) ?_
  exact hret (-2) _ _ _ _ _ _ dX9_sharp_14 hT hS ⟨hR1, rfl⟩

set_option maxRecDepth 100000 in
set_option maxHeartbeats 4000000 in
theorem k_X9_uncut {l : Launch} {D : va_G} {h : Nat → Nat} {cz : Nat → ClassId} {i : Nat → Nat → Int32} {g : Nat → Nat → Int64} (hR : Rg rM i)  : CtI l yX9_uncut cX9_uncut 1 (some .int) ({ frames := 1, cells := 0, slots := 0, locals := 20 } : Room) D h cz i g [.ref (h 96)] (fun r u => Rg rM u.1 ∧ r = (-2)) := by
  refine k_I pn_X9_uncut (Nat.le_of_ble_eq_true rfl) ?_
  intro p e s m args below meth c ls Q X hret hT hl hS
  have hx := X.1
  have hb := X.2.1
  have hl : lv_has ls 1 [(0, .ref (h 96))] := hl
  refine lv_aload_n hx hb dX9_uncut_0 rfl (lv_at hl 0 rfl) ?_
  refine lv_iconst (v := 0) hx hb dX9_uncut_1 (by decide) ?_
  refine r_puti X hT hS 96 0 pk_9_83 rfl rfl rfl rfl (by decide) dX9_uncut_2 (fun H locs i1 ei1 hT hS => ?_)
  have hR1 := Rg_put hR ei1 0 0 rfl (rg_k (by decide) : rg 0 0 0) (by decide)
  refine lv_aload_n hx hb dX9_uncut_5 rfl (lv_at hl 0 rfl) ?_
  refine r_Vi (As := []) (rest := []) X hT hS (k_X9_isTale hR1) mk_X9_isTale gm_1685 rfl rfl (by decide) hd_X9_isTale ⟨rfl, rfl⟩ ⟨Nat.le_of_ble_eq_true rfl, Nat.le_of_ble_eq_true rfl⟩ hl.1 rfl (Nat.le_of_ble_eq_true rfl) dX9_uncut_6 ⟨Nat.zero_le _, Nat.zero_le _⟩ (fun r2 i2 g2 H locs hq hT hS => ?_)
  obtain ⟨eh2, rfl⟩ := hq
  rw [(Prod.mk.inj eh2).1, (Prod.mk.inj eh2).2] at hT
  refine lv_if_ne (tgt := 15) hx hb dX9_uncut_9 (by decide) (fun c3 => (x_ne (rg_k (by decide) : rg 0 0 0) (rg_k (by decide) : rg 0 0 0) (i_ne c3) (by decide)).elim) (fun c3 => ?_)
  refine lv_bipush (v := (-2)) hx hb dX9_uncut_12 (by decide) ?_
  exact hret (-2) _ _ _ _ _ _ dX9_uncut_14 hT hS ⟨hR1, rfl⟩

set_option maxRecDepth 100000 in
set_option maxHeartbeats 4000000 in
theorem k_X9_done {l : Launch} {D : va_G} {h : Nat → Nat} {cz : Nat → ClassId} {i : Nat → Nat → Int32} {g : Nat → Nat → Int64} (hR : Rg rM i)  : CtI l yX9_done cX9_done 2 (some .int) ({ frames := 1, cells := 0, slots := 0, locals := 20 } : Room) D h cz i g [.ref (h 96)] (fun r u => Rg rM u.1 ∧ r = (-2)) := by
  refine k_I pn_X9_done (Nat.le_of_ble_eq_true rfl) ?_
  intro p e s m args below meth c ls Q X hret hT hl hS
  have hx := X.1
  have hb := X.2.1
  have hl : lv_has ls 2 [(0, .ref (h 96))] := hl
  refine lv_aload_n hx hb dX9_done_0 rfl (lv_at hl 0 rfl) ?_
  refine lv_iconst (v := 0) hx hb dX9_done_1 (by decide) ?_
  refine r_puti X hT hS 96 0 pk_9_83 rfl rfl rfl rfl (by decide) dX9_done_2 (fun H locs i1 ei1 hT hS => ?_)
  have hR1 := Rg_put hR ei1 0 0 rfl (rg_k (by decide) : rg 0 0 0) (by decide)
  refine lv_aload_n hx hb dX9_done_5 rfl (lv_at hl 0 rfl) ?_
  refine r_Vi (As := []) (rest := []) X hT hS (k_X9_isTale hR1) mk_X9_isTale gm_1685 rfl rfl (by decide) hd_X9_isTale ⟨rfl, rfl⟩ ⟨Nat.le_of_ble_eq_true rfl, Nat.le_of_ble_eq_true rfl⟩ hl.1 rfl (Nat.le_of_ble_eq_true rfl) dX9_done_6 ⟨Nat.zero_le _, Nat.zero_le _⟩ (fun r2 i2 g2 H locs hq hT hS => ?_)
  obtain ⟨eh2, rfl⟩ := hq
  rw [(Prod.mk.inj eh2).1, (Prod.mk.inj eh2).2] at hT
  refine lv_if_ne (tgt := 15) hx hb dX9_done_9 (by decide) (fun c3 => (x_ne (rg_k (by decide) : rg 0 0 0) (rg_k (by decide) : rg 0 0 0) (i_ne c3) (by decide)).elim) (fun c3 => ?_)
  refine lv_bipush (v := (-2)) hx hb dX9_done_12 (by decide) ?_
  exact hret (-2) _ _ _ _ _ _ dX9_done_14 hT hS ⟨hR1, rfl⟩

set_option maxRecDepth 100000 in
set_option maxHeartbeats 4000000 in
theorem k_X9_rush {l : Launch} {D : va_G} {h : Nat → Nat} {cz : Nat → ClassId} {i : Nat → Nat → Int32} {g : Nat → Nat → Int64} (hR : Rg rM i)  : CtI l yX9_rush cX9_rush 3 (some .int) ({ frames := 1, cells := 0, slots := 0, locals := 20 } : Room) D h cz i g [.ref (h 96)] (fun r u => Rg rM u.1 ∧ r = (-2)) := by
  refine k_I pn_X9_rush (Nat.le_of_ble_eq_true rfl) ?_
  intro p e s m args below meth c ls Q X hret hT hl hS
  have hx := X.1
  have hb := X.2.1
  have hl : lv_has ls 3 [(0, .ref (h 96))] := hl
  refine lv_aload_n hx hb dX9_rush_0 rfl (lv_at hl 0 rfl) ?_
  refine lv_iconst (v := 0) hx hb dX9_rush_1 (by decide) ?_
  refine r_puti X hT hS 96 0 pk_9_83 rfl rfl rfl rfl (by decide) dX9_rush_2 (fun H locs i1 ei1 hT hS => ?_)
  have hR1 := Rg_put hR ei1 0 0 rfl (rg_k (by decide) : rg 0 0 0) (by decide)
  refine lv_aload_n hx hb dX9_rush_5 rfl (lv_at hl 0 rfl) ?_
  refine r_Vi (As := []) (rest := []) X hT hS (k_X9_isTale hR1) mk_X9_isTale gm_1685 rfl rfl (by decide) hd_X9_isTale ⟨rfl, rfl⟩ ⟨Nat.le_of_ble_eq_true rfl, Nat.le_of_ble_eq_true rfl⟩ hl.1 rfl (Nat.le_of_ble_eq_true rfl) dX9_rush_6 ⟨Nat.zero_le _, Nat.zero_le _⟩ (fun r2 i2 g2 H locs hq hT hS => ?_)
  obtain ⟨eh2, rfl⟩ := hq
  rw [(Prod.mk.inj eh2).1, (Prod.mk.inj eh2).2] at hT
  refine lv_if_ne (tgt := 15) hx hb dX9_rush_9 (by decide) (fun c3 => (x_ne (rg_k (by decide) : rg 0 0 0) (rg_k (by decide) : rg 0 0 0) (i_ne c3) (by decide)).elim) (fun c3 => ?_)
  refine lv_bipush (v := (-2)) hx hb dX9_rush_12 (by decide) ?_
  exact hret (-2) _ _ _ _ _ _ dX9_rush_14 hT hS ⟨hR1, rfl⟩

set_option maxRecDepth 100000 in
set_option maxHeartbeats 4000000 in
theorem k_X9_with {l : Launch} {D : va_G} {h : Nat → Nat} {cz : Nat → ClassId} {i : Nat → Nat → Int32} {g : Nat → Nat → Int64} (hR : Rg rM i) (a_a : Int32) : CtI l yX9_with cX9_with 4 (some .int) ({ frames := 2, cells := 0, slots := 0, locals := 47 } : Room) D h cz i g [.ref (h 96), .int a_a] (fun r u => Rg rM u.1 ∧ r = (-2)) := by
  refine k_I pn_X9_with (Nat.le_of_ble_eq_true rfl) ?_
  intro p e s m args below meth c ls Q X hret hT hl hS
  have hx := X.1
  have hb := X.2.1
  have hl : lv_has ls 4 [(0, .ref (h 96)), (1, .int a_a)] := hl
  refine lv_aload_n hx hb dX9_with_0 rfl (lv_at hl 0 rfl) ?_
  refine lv_iconst (v := 0) hx hb dX9_with_1 (by decide) ?_
  refine r_puti X hT hS 96 0 pk_9_83 rfl rfl rfl rfl (by decide) dX9_with_2 (fun H locs i1 ei1 hT hS => ?_)
  have hR1 := Rg_put hR ei1 0 0 rfl (rg_k (by decide) : rg 0 0 0) (by decide)
  refine lv_aload_n hx hb dX9_with_5 rfl (lv_at hl 0 rfl) ?_
  refine lv_iload_n hx hb dX9_with_6 rfl (lv_at hl 1 rfl) ?_
  refine q_i2l hx hb dX9_with_7 (fun y2 ey2 => ?_)
  obtain ⟨hy2, ay2⟩ := rg_i2l ey2 (rg_top a_a)
  refine r_Vi (As := [.long y2]) (rest := []) X hT hS (k_X9_isPart hR1 y2) mk_X9_isPart gm_1645 rfl rfl (by decide) hd_X9_isPart ⟨rfl, rfl⟩ ⟨Nat.le_of_ble_eq_true rfl, Nat.le_of_ble_eq_true rfl⟩ hl.1 rfl (Nat.le_of_ble_eq_true rfl) dX9_with_8 ⟨Nat.zero_le _, Nat.zero_le _⟩ (fun r3 i3 g3 H locs hq hT hS => ?_)
  obtain ⟨eh3, rfl⟩ := hq
  rw [(Prod.mk.inj eh3).1, (Prod.mk.inj eh3).2] at hT
  refine lv_if_ne (tgt := 17) hx hb dX9_with_11 (by decide) (fun c4 => (x_ne (rg_k (by decide) : rg 0 0 0) (rg_k (by decide) : rg 0 0 0) (i_ne c4) (by decide)).elim) (fun c4 => ?_)
  refine lv_bipush (v := (-2)) hx hb dX9_with_14 (by decide) ?_
  exact hret (-2) _ _ _ _ _ _ dX9_with_16 hT hS ⟨hR1, rfl⟩

set_option maxRecDepth 100000 in
set_option maxHeartbeats 4000000 in
theorem k_X9_charms {l : Launch} {D : va_G} {h : Nat → Nat} {cz : Nat → ClassId} {i : Nat → Nat → Int32} {g : Nat → Nat → Int64} (hR : Rg rM i)  : CtI l yX9_charms cX9_charms 3 (some .int) ({ frames := 1, cells := 0, slots := 0, locals := 20 } : Room) D h cz i g [.ref (h 96)] (fun r u => Rg rM u.1 ∧ r = (-2)) := by
  refine k_I pn_X9_charms (Nat.le_of_ble_eq_true rfl) ?_
  intro p e s m args below meth c ls Q X hret hT hl hS
  have hx := X.1
  have hb := X.2.1
  have hl : lv_has ls 3 [(0, .ref (h 96))] := hl
  refine lv_aload_n hx hb dX9_charms_0 rfl (lv_at hl 0 rfl) ?_
  refine lv_iconst (v := 0) hx hb dX9_charms_1 (by decide) ?_
  refine r_puti X hT hS 96 0 pk_9_83 rfl rfl rfl rfl (by decide) dX9_charms_2 (fun H locs i1 ei1 hT hS => ?_)
  have hR1 := Rg_put hR ei1 0 0 rfl (rg_k (by decide) : rg 0 0 0) (by decide)
  refine lv_aload_n hx hb dX9_charms_5 rfl (lv_at hl 0 rfl) ?_
  refine r_Vi (As := []) (rest := []) X hT hS (k_X9_isTale hR1) mk_X9_isTale gm_1685 rfl rfl (by decide) hd_X9_isTale ⟨rfl, rfl⟩ ⟨Nat.le_of_ble_eq_true rfl, Nat.le_of_ble_eq_true rfl⟩ hl.1 rfl (Nat.le_of_ble_eq_true rfl) dX9_charms_6 ⟨Nat.zero_le _, Nat.zero_le _⟩ (fun r2 i2 g2 H locs hq hT hS => ?_)
  obtain ⟨eh2, rfl⟩ := hq
  rw [(Prod.mk.inj eh2).1, (Prod.mk.inj eh2).2] at hT
  refine lv_if_ne (tgt := 15) hx hb dX9_charms_9 (by decide) (fun c3 => (x_ne (rg_k (by decide) : rg 0 0 0) (rg_k (by decide) : rg 0 0 0) (i_ne c3) (by decide)).elim) (fun c3 => ?_)
  refine lv_bipush (v := (-2)) hx hb dX9_charms_12 (by decide) ?_
  exact hret (-2) _ _ _ _ _ _ dX9_charms_14 hT hS ⟨hR1, rfl⟩

set_option maxRecDepth 100000 in
set_option maxHeartbeats 4000000 in
theorem k_X9_best {l : Launch} {D : va_G} {h : Nat → Nat} {cz : Nat → ClassId} {i : Nat → Nat → Int32} {g : Nat → Nat → Int64} (hR : Rg rM i) (a_a : Int32) : CtI l yX9_best cX9_best 4 (some .int) ({ frames := 2, cells := 0, slots := 0, locals := 47 } : Room) D h cz i g [.ref (h 96), .int a_a] (fun r u => Rg rM u.1 ∧ r = (-2)) := by
  refine k_I pn_X9_best (Nat.le_of_ble_eq_true rfl) ?_
  intro p e s m args below meth c ls Q X hret hT hl hS
  have hx := X.1
  have hb := X.2.1
  have hl : lv_has ls 4 [(0, .ref (h 96)), (1, .int a_a)] := hl
  refine lv_aload_n hx hb dX9_best_0 rfl (lv_at hl 0 rfl) ?_
  refine lv_iconst (v := 0) hx hb dX9_best_1 (by decide) ?_
  refine r_puti X hT hS 96 0 pk_9_83 rfl rfl rfl rfl (by decide) dX9_best_2 (fun H locs i1 ei1 hT hS => ?_)
  have hR1 := Rg_put hR ei1 0 0 rfl (rg_k (by decide) : rg 0 0 0) (by decide)
  refine lv_aload_n hx hb dX9_best_5 rfl (lv_at hl 0 rfl) ?_
  refine lv_iload_n hx hb dX9_best_6 rfl (lv_at hl 1 rfl) ?_
  refine q_i2l hx hb dX9_best_7 (fun y2 ey2 => ?_)
  obtain ⟨hy2, ay2⟩ := rg_i2l ey2 (rg_top a_a)
  refine r_Vi (As := [.long y2]) (rest := []) X hT hS (k_X9_isPart hR1 y2) mk_X9_isPart gm_1645 rfl rfl (by decide) hd_X9_isPart ⟨rfl, rfl⟩ ⟨Nat.le_of_ble_eq_true rfl, Nat.le_of_ble_eq_true rfl⟩ hl.1 rfl (Nat.le_of_ble_eq_true rfl) dX9_best_8 ⟨Nat.zero_le _, Nat.zero_le _⟩ (fun r3 i3 g3 H locs hq hT hS => ?_)
  obtain ⟨eh3, rfl⟩ := hq
  rw [(Prod.mk.inj eh3).1, (Prod.mk.inj eh3).2] at hT
  refine lv_if_ne (tgt := 17) hx hb dX9_best_11 (by decide) (fun c4 => (x_ne (rg_k (by decide) : rg 0 0 0) (rg_k (by decide) : rg 0 0 0) (i_ne c4) (by decide)).elim) (fun c4 => ?_)
  refine lv_bipush (v := (-2)) hx hb dX9_best_14 (by decide) ?_
  exact hret (-2) _ _ _ _ _ _ dX9_best_16 hT hS ⟨hR1, rfl⟩

set_option maxRecDepth 100000 in
set_option maxHeartbeats 4000000 in
theorem k_X9_peak {l : Launch} {D : va_G} {h : Nat → Nat} {cz : Nat → ClassId} {i : Nat → Nat → Int32} {g : Nat → Nat → Int64} (hR : Rg rM i)  : CtI l yX9_peak cX9_peak 3 (some .int) ({ frames := 1, cells := 0, slots := 0, locals := 20 } : Room) D h cz i g [.ref (h 96)] (fun r u => Rg rM u.1 ∧ r = (-2)) := by
  refine k_I pn_X9_peak (Nat.le_of_ble_eq_true rfl) ?_
  intro p e s m args below meth c ls Q X hret hT hl hS
  have hx := X.1
  have hb := X.2.1
  have hl : lv_has ls 3 [(0, .ref (h 96))] := hl
  refine lv_aload_n hx hb dX9_peak_0 rfl (lv_at hl 0 rfl) ?_
  refine lv_iconst (v := 0) hx hb dX9_peak_1 (by decide) ?_
  refine r_puti X hT hS 96 0 pk_9_83 rfl rfl rfl rfl (by decide) dX9_peak_2 (fun H locs i1 ei1 hT hS => ?_)
  have hR1 := Rg_put hR ei1 0 0 rfl (rg_k (by decide) : rg 0 0 0) (by decide)
  refine lv_aload_n hx hb dX9_peak_5 rfl (lv_at hl 0 rfl) ?_
  refine r_Vi (As := []) (rest := []) X hT hS (k_X9_isTale hR1) mk_X9_isTale gm_1685 rfl rfl (by decide) hd_X9_isTale ⟨rfl, rfl⟩ ⟨Nat.le_of_ble_eq_true rfl, Nat.le_of_ble_eq_true rfl⟩ hl.1 rfl (Nat.le_of_ble_eq_true rfl) dX9_peak_6 ⟨Nat.zero_le _, Nat.zero_le _⟩ (fun r2 i2 g2 H locs hq hT hS => ?_)
  obtain ⟨eh2, rfl⟩ := hq
  rw [(Prod.mk.inj eh2).1, (Prod.mk.inj eh2).2] at hT
  refine lv_if_ne (tgt := 15) hx hb dX9_peak_9 (by decide) (fun c3 => (x_ne (rg_k (by decide) : rg 0 0 0) (rg_k (by decide) : rg 0 0 0) (i_ne c3) (by decide)).elim) (fun c3 => ?_)
  refine lv_bipush (v := (-2)) hx hb dX9_peak_12 (by decide) ?_
  exact hret (-2) _ _ _ _ _ _ dX9_peak_14 hT hS ⟨hR1, rfl⟩

set_option maxRecDepth 100000 in
set_option maxHeartbeats 4000000 in
theorem k_X9_first {l : Launch} {D : va_G} {h : Nat → Nat} {cz : Nat → ClassId} {i : Nat → Nat → Int32} {g : Nat → Nat → Int64} (hR : Rg rM i)  : CtI l yX9_first cX9_first 2 (some .int) ({ frames := 1, cells := 0, slots := 0, locals := 20 } : Room) D h cz i g [.ref (h 96)] (fun r u => Rg rM u.1 ∧ r = (-2)) := by
  refine k_I pn_X9_first (Nat.le_of_ble_eq_true rfl) ?_
  intro p e s m args below meth c ls Q X hret hT hl hS
  have hx := X.1
  have hb := X.2.1
  have hl : lv_has ls 2 [(0, .ref (h 96))] := hl
  refine lv_aload_n hx hb dX9_first_0 rfl (lv_at hl 0 rfl) ?_
  refine lv_iconst (v := 0) hx hb dX9_first_1 (by decide) ?_
  refine r_puti X hT hS 96 0 pk_9_83 rfl rfl rfl rfl (by decide) dX9_first_2 (fun H locs i1 ei1 hT hS => ?_)
  have hR1 := Rg_put hR ei1 0 0 rfl (rg_k (by decide) : rg 0 0 0) (by decide)
  refine lv_aload_n hx hb dX9_first_5 rfl (lv_at hl 0 rfl) ?_
  refine r_Vi (As := []) (rest := []) X hT hS (k_X9_isTale hR1) mk_X9_isTale gm_1685 rfl rfl (by decide) hd_X9_isTale ⟨rfl, rfl⟩ ⟨Nat.le_of_ble_eq_true rfl, Nat.le_of_ble_eq_true rfl⟩ hl.1 rfl (Nat.le_of_ble_eq_true rfl) dX9_first_6 ⟨Nat.zero_le _, Nat.zero_le _⟩ (fun r2 i2 g2 H locs hq hT hS => ?_)
  obtain ⟨eh2, rfl⟩ := hq
  rw [(Prod.mk.inj eh2).1, (Prod.mk.inj eh2).2] at hT
  refine lv_if_ne (tgt := 15) hx hb dX9_first_9 (by decide) (fun c3 => (x_ne (rg_k (by decide) : rg 0 0 0) (rg_k (by decide) : rg 0 0 0) (i_ne c3) (by decide)).elim) (fun c3 => ?_)
  refine lv_bipush (v := (-2)) hx hb dX9_first_12 (by decide) ?_
  exact hret (-2) _ _ _ _ _ _ dX9_first_14 hT hS ⟨hR1, rfl⟩

set_option maxRecDepth 100000 in
set_option maxHeartbeats 4000000 in
theorem k_X9_quiet {l : Launch} {D : va_G} {h : Nat → Nat} {cz : Nat → ClassId} {i : Nat → Nat → Int32} {g : Nat → Nat → Int64} (hR : Rg rM i)  : CtI l yX9_quiet cX9_quiet 3 (some .int) ({ frames := 1, cells := 0, slots := 0, locals := 20 } : Room) D h cz i g [.ref (h 96)] (fun r u => Rg rM u.1 ∧ r = (-2)) := by
  refine k_I pn_X9_quiet (Nat.le_of_ble_eq_true rfl) ?_
  intro p e s m args below meth c ls Q X hret hT hl hS
  have hx := X.1
  have hb := X.2.1
  have hl : lv_has ls 3 [(0, .ref (h 96))] := hl
  refine lv_aload_n hx hb dX9_quiet_0 rfl (lv_at hl 0 rfl) ?_
  refine lv_iconst (v := 0) hx hb dX9_quiet_1 (by decide) ?_
  refine r_puti X hT hS 96 0 pk_9_83 rfl rfl rfl rfl (by decide) dX9_quiet_2 (fun H locs i1 ei1 hT hS => ?_)
  have hR1 := Rg_put hR ei1 0 0 rfl (rg_k (by decide) : rg 0 0 0) (by decide)
  refine lv_aload_n hx hb dX9_quiet_5 rfl (lv_at hl 0 rfl) ?_
  refine r_Vi (As := []) (rest := []) X hT hS (k_X9_isTale hR1) mk_X9_isTale gm_1685 rfl rfl (by decide) hd_X9_isTale ⟨rfl, rfl⟩ ⟨Nat.le_of_ble_eq_true rfl, Nat.le_of_ble_eq_true rfl⟩ hl.1 rfl (Nat.le_of_ble_eq_true rfl) dX9_quiet_6 ⟨Nat.zero_le _, Nat.zero_le _⟩ (fun r2 i2 g2 H locs hq hT hS => ?_)
  obtain ⟨eh2, rfl⟩ := hq
  rw [(Prod.mk.inj eh2).1, (Prod.mk.inj eh2).2] at hT
  refine lv_if_ne (tgt := 15) hx hb dX9_quiet_9 (by decide) (fun c3 => (x_ne (rg_k (by decide) : rg 0 0 0) (rg_k (by decide) : rg 0 0 0) (i_ne c3) (by decide)).elim) (fun c3 => ?_)
  refine lv_bipush (v := (-2)) hx hb dX9_quiet_12 (by decide) ?_
  exact hret (-2) _ _ _ _ _ _ dX9_quiet_14 hT hS ⟨hR1, rfl⟩

set_option maxRecDepth 100000 in
set_option maxHeartbeats 4000000 in
theorem k_X9_lone {l : Launch} {D : va_G} {h : Nat → Nat} {cz : Nat → ClassId} {i : Nat → Nat → Int32} {g : Nat → Nat → Int64} (hR : Rg rM i) (a_a : Int32) : CtI l yX9_lone cX9_lone 4 (some .int) ({ frames := 2, cells := 0, slots := 0, locals := 42 } : Room) D h cz i g [.ref (h 96), .int a_a] (fun r u => Rg rM u.1 ∧ r = (-2)) := by
  refine k_I pn_X9_lone (Nat.le_of_ble_eq_true rfl) ?_
  intro p e s m args below meth c ls Q X hret hT hl hS
  have hx := X.1
  have hb := X.2.1
  have hl : lv_has ls 4 [(0, .ref (h 96)), (1, .int a_a)] := hl
  refine lv_aload_n hx hb dX9_lone_0 rfl (lv_at hl 0 rfl) ?_
  refine lv_iconst (v := 0) hx hb dX9_lone_1 (by decide) ?_
  refine r_puti X hT hS 96 0 pk_9_83 rfl rfl rfl rfl (by decide) dX9_lone_2 (fun H locs i1 ei1 hT hS => ?_)
  have hR1 := Rg_put hR ei1 0 0 rfl (rg_k (by decide) : rg 0 0 0) (by decide)
  refine lv_aload_n hx hb dX9_lone_5 rfl (lv_at hl 0 rfl) ?_
  refine lv_iload_n hx hb dX9_lone_6 rfl (lv_at hl 1 rfl) ?_
  refine q_i2l hx hb dX9_lone_7 (fun y2 ey2 => ?_)
  obtain ⟨hy2, ay2⟩ := rg_i2l ey2 (rg_top a_a)
  refine r_Vi (As := [.long y2]) (rest := []) X hT hS (k_X9_isYear hR1 y2) mk_X9_isYear gm_1681 rfl rfl (by decide) hd_X9_isYear ⟨rfl, rfl⟩ ⟨Nat.le_of_ble_eq_true rfl, Nat.le_of_ble_eq_true rfl⟩ hl.1 rfl (Nat.le_of_ble_eq_true rfl) dX9_lone_8 ⟨Nat.zero_le _, Nat.zero_le _⟩ (fun r3 i3 g3 H locs hq hT hS => ?_)
  obtain ⟨eh3, rfl⟩ := hq
  rw [(Prod.mk.inj eh3).1, (Prod.mk.inj eh3).2] at hT
  refine lv_if_ne (tgt := 17) hx hb dX9_lone_11 (by decide) (fun c4 => (x_ne (rg_k (by decide) : rg 0 0 0) (rg_k (by decide) : rg 0 0 0) (i_ne c4) (by decide)).elim) (fun c4 => ?_)
  refine lv_bipush (v := (-2)) hx hb dX9_lone_14 (by decide) ?_
  exact hret (-2) _ _ _ _ _ _ dX9_lone_16 hT hS ⟨hR1, rfl⟩

set_option maxRecDepth 100000 in
set_option maxHeartbeats 4000000 in
theorem k_X9_stalest {l : Launch} {D : va_G} {h : Nat → Nat} {cz : Nat → ClassId} {i : Nat → Nat → Int32} {g : Nat → Nat → Int64} (hR : Rg rM i) (a_a : Int32) : CtI l yX9_stalest cX9_stalest 4 (some .int) ({ frames := 2, cells := 0, slots := 0, locals := 42 } : Room) D h cz i g [.ref (h 96), .int a_a] (fun r u => Rg rM u.1 ∧ r = (-2)) := by
  refine k_I pn_X9_stalest (Nat.le_of_ble_eq_true rfl) ?_
  intro p e s m args below meth c ls Q X hret hT hl hS
  have hx := X.1
  have hb := X.2.1
  have hl : lv_has ls 4 [(0, .ref (h 96)), (1, .int a_a)] := hl
  refine lv_aload_n hx hb dX9_stalest_0 rfl (lv_at hl 0 rfl) ?_
  refine lv_iconst (v := 0) hx hb dX9_stalest_1 (by decide) ?_
  refine r_puti X hT hS 96 0 pk_9_83 rfl rfl rfl rfl (by decide) dX9_stalest_2 (fun H locs i1 ei1 hT hS => ?_)
  have hR1 := Rg_put hR ei1 0 0 rfl (rg_k (by decide) : rg 0 0 0) (by decide)
  refine lv_aload_n hx hb dX9_stalest_5 rfl (lv_at hl 0 rfl) ?_
  refine lv_iload_n hx hb dX9_stalest_6 rfl (lv_at hl 1 rfl) ?_
  refine q_i2l hx hb dX9_stalest_7 (fun y2 ey2 => ?_)
  obtain ⟨hy2, ay2⟩ := rg_i2l ey2 (rg_top a_a)
  refine r_Vi (As := [.long y2]) (rest := []) X hT hS (k_X9_isYear hR1 y2) mk_X9_isYear gm_1681 rfl rfl (by decide) hd_X9_isYear ⟨rfl, rfl⟩ ⟨Nat.le_of_ble_eq_true rfl, Nat.le_of_ble_eq_true rfl⟩ hl.1 rfl (Nat.le_of_ble_eq_true rfl) dX9_stalest_8 ⟨Nat.zero_le _, Nat.zero_le _⟩ (fun r3 i3 g3 H locs hq hT hS => ?_)
  obtain ⟨eh3, rfl⟩ := hq
  rw [(Prod.mk.inj eh3).1, (Prod.mk.inj eh3).2] at hT
  refine lv_if_ne (tgt := 17) hx hb dX9_stalest_11 (by decide) (fun c4 => (x_ne (rg_k (by decide) : rg 0 0 0) (rg_k (by decide) : rg 0 0 0) (i_ne c4) (by decide)).elim) (fun c4 => ?_)
  refine lv_bipush (v := (-2)) hx hb dX9_stalest_14 (by decide) ?_
  exact hret (-2) _ _ _ _ _ _ dX9_stalest_16 hT hS ⟨hR1, rfl⟩

set_option maxRecDepth 100000 in
set_option maxHeartbeats 4000000 in
theorem k_X9_pieces {l : Launch} {D : va_G} {h : Nat → Nat} {cz : Nat → ClassId} {i : Nat → Nat → Int32} {g : Nat → Nat → Int64} (hR : Rg rM i)  : CtI l yX9_pieces cX9_pieces 7 (some .int) ({ frames := 1, cells := 0, slots := 0, locals := 20 } : Room) D h cz i g [.ref (h 96)] (fun r u => Rg rM u.1 ∧ r = (-2)) := by
  refine k_I pn_X9_pieces (Nat.le_of_ble_eq_true rfl) ?_
  intro p e s m args below meth c ls Q X hret hT hl hS
  have hx := X.1
  have hb := X.2.1
  have hl : lv_has ls 7 [(0, .ref (h 96))] := hl
  refine lv_aload_n hx hb dX9_pieces_0 rfl (lv_at hl 0 rfl) ?_
  refine lv_iconst (v := 0) hx hb dX9_pieces_1 (by decide) ?_
  refine r_puti X hT hS 96 0 pk_9_83 rfl rfl rfl rfl (by decide) dX9_pieces_2 (fun H locs i1 ei1 hT hS => ?_)
  have hR1 := Rg_put hR ei1 0 0 rfl (rg_k (by decide) : rg 0 0 0) (by decide)
  refine lv_aload_n hx hb dX9_pieces_5 rfl (lv_at hl 0 rfl) ?_
  refine r_Vi (As := []) (rest := []) X hT hS (k_X9_isTale hR1) mk_X9_isTale gm_1685 rfl rfl (by decide) hd_X9_isTale ⟨rfl, rfl⟩ ⟨Nat.le_of_ble_eq_true rfl, Nat.le_of_ble_eq_true rfl⟩ hl.1 rfl (Nat.le_of_ble_eq_true rfl) dX9_pieces_6 ⟨Nat.zero_le _, Nat.zero_le _⟩ (fun r2 i2 g2 H locs hq hT hS => ?_)
  obtain ⟨eh2, rfl⟩ := hq
  rw [(Prod.mk.inj eh2).1, (Prod.mk.inj eh2).2] at hT
  refine lv_if_ne (tgt := 15) hx hb dX9_pieces_9 (by decide) (fun c3 => (x_ne (rg_k (by decide) : rg 0 0 0) (rg_k (by decide) : rg 0 0 0) (i_ne c3) (by decide)).elim) (fun c3 => ?_)
  refine lv_bipush (v := (-2)) hx hb dX9_pieces_12 (by decide) ?_
  exact hret (-2) _ _ _ _ _ _ dX9_pieces_14 hT hS ⟨hR1, rfl⟩

set_option maxRecDepth 100000 in
set_option maxHeartbeats 4000000 in
theorem k_X9_lost {l : Launch} {D : va_G} {h : Nat → Nat} {cz : Nat → ClassId} {i : Nat → Nat → Int32} {g : Nat → Nat → Int64} (hR : Rg rM i)  : CtI l yX9_lost cX9_lost 3 (some .int) ({ frames := 1, cells := 0, slots := 0, locals := 20 } : Room) D h cz i g [.ref (h 96)] (fun r u => Rg rM u.1 ∧ r = (-2)) := by
  refine k_I pn_X9_lost (Nat.le_of_ble_eq_true rfl) ?_
  intro p e s m args below meth c ls Q X hret hT hl hS
  have hx := X.1
  have hb := X.2.1
  have hl : lv_has ls 3 [(0, .ref (h 96))] := hl
  refine lv_aload_n hx hb dX9_lost_0 rfl (lv_at hl 0 rfl) ?_
  refine lv_iconst (v := 0) hx hb dX9_lost_1 (by decide) ?_
  refine r_puti X hT hS 96 0 pk_9_83 rfl rfl rfl rfl (by decide) dX9_lost_2 (fun H locs i1 ei1 hT hS => ?_)
  have hR1 := Rg_put hR ei1 0 0 rfl (rg_k (by decide) : rg 0 0 0) (by decide)
  refine lv_aload_n hx hb dX9_lost_5 rfl (lv_at hl 0 rfl) ?_
  refine r_Vi (As := []) (rest := []) X hT hS (k_X9_isTale hR1) mk_X9_isTale gm_1685 rfl rfl (by decide) hd_X9_isTale ⟨rfl, rfl⟩ ⟨Nat.le_of_ble_eq_true rfl, Nat.le_of_ble_eq_true rfl⟩ hl.1 rfl (Nat.le_of_ble_eq_true rfl) dX9_lost_6 ⟨Nat.zero_le _, Nat.zero_le _⟩ (fun r2 i2 g2 H locs hq hT hS => ?_)
  obtain ⟨eh2, rfl⟩ := hq
  rw [(Prod.mk.inj eh2).1, (Prod.mk.inj eh2).2] at hT
  refine lv_if_ne (tgt := 15) hx hb dX9_lost_9 (by decide) (fun c3 => (x_ne (rg_k (by decide) : rg 0 0 0) (rg_k (by decide) : rg 0 0 0) (i_ne c3) (by decide)).elim) (fun c3 => ?_)
  refine lv_bipush (v := (-2)) hx hb dX9_lost_12 (by decide) ?_
  exact hret (-2) _ _ _ _ _ _ dX9_lost_14 hT hS ⟨hR1, rfl⟩

set_option maxRecDepth 100000 in
set_option maxHeartbeats 4000000 in
theorem k_X9_knives {l : Launch} {D : va_G} {h : Nat → Nat} {cz : Nat → ClassId} {i : Nat → Nat → Int32} {g : Nat → Nat → Int64} (hR : Rg rM i) (a_a : Int32) : CtI l yX9_knives cX9_knives 4 (some .int) ({ frames := 2, cells := 0, slots := 0, locals := 47 } : Room) D h cz i g [.ref (h 96), .int a_a] (fun r u => Rg rM u.1 ∧ r = (-2)) := by
  refine k_I pn_X9_knives (Nat.le_of_ble_eq_true rfl) ?_
  intro p e s m args below meth c ls Q X hret hT hl hS
  have hx := X.1
  have hb := X.2.1
  have hl : lv_has ls 4 [(0, .ref (h 96)), (1, .int a_a)] := hl
  refine lv_aload_n hx hb dX9_knives_0 rfl (lv_at hl 0 rfl) ?_
  refine lv_iconst (v := 0) hx hb dX9_knives_1 (by decide) ?_
  refine r_puti X hT hS 96 0 pk_9_83 rfl rfl rfl rfl (by decide) dX9_knives_2 (fun H locs i1 ei1 hT hS => ?_)
  have hR1 := Rg_put hR ei1 0 0 rfl (rg_k (by decide) : rg 0 0 0) (by decide)
  refine lv_aload_n hx hb dX9_knives_5 rfl (lv_at hl 0 rfl) ?_
  refine lv_iload_n hx hb dX9_knives_6 rfl (lv_at hl 1 rfl) ?_
  refine q_i2l hx hb dX9_knives_7 (fun y2 ey2 => ?_)
  obtain ⟨hy2, ay2⟩ := rg_i2l ey2 (rg_top a_a)
  refine r_Vi (As := [.long y2]) (rest := []) X hT hS (k_X9_isPart hR1 y2) mk_X9_isPart gm_1645 rfl rfl (by decide) hd_X9_isPart ⟨rfl, rfl⟩ ⟨Nat.le_of_ble_eq_true rfl, Nat.le_of_ble_eq_true rfl⟩ hl.1 rfl (Nat.le_of_ble_eq_true rfl) dX9_knives_8 ⟨Nat.zero_le _, Nat.zero_le _⟩ (fun r3 i3 g3 H locs hq hT hS => ?_)
  obtain ⟨eh3, rfl⟩ := hq
  rw [(Prod.mk.inj eh3).1, (Prod.mk.inj eh3).2] at hT
  refine lv_if_ne (tgt := 17) hx hb dX9_knives_11 (by decide) (fun c4 => (x_ne (rg_k (by decide) : rg 0 0 0) (rg_k (by decide) : rg 0 0 0) (i_ne c4) (by decide)).elim) (fun c4 => ?_)
  refine lv_bipush (v := (-2)) hx hb dX9_knives_14 (by decide) ?_
  exact hret (-2) _ _ _ _ _ _ dX9_knives_16 hT hS ⟨hR1, rfl⟩

set_option maxRecDepth 100000 in
set_option maxHeartbeats 4000000 in
theorem k_X9_idle {l : Launch} {D : va_G} {h : Nat → Nat} {cz : Nat → ClassId} {i : Nat → Nat → Int32} {g : Nat → Nat → Int64} (hR : Rg rM i)  : CtI l yX9_idle cX9_idle 3 (some .int) ({ frames := 1, cells := 0, slots := 0, locals := 20 } : Room) D h cz i g [.ref (h 96)] (fun r u => Rg rM u.1 ∧ r = (-2)) := by
  refine k_I pn_X9_idle (Nat.le_of_ble_eq_true rfl) ?_
  intro p e s m args below meth c ls Q X hret hT hl hS
  have hx := X.1
  have hb := X.2.1
  have hl : lv_has ls 3 [(0, .ref (h 96))] := hl
  refine lv_aload_n hx hb dX9_idle_0 rfl (lv_at hl 0 rfl) ?_
  refine lv_iconst (v := 0) hx hb dX9_idle_1 (by decide) ?_
  refine r_puti X hT hS 96 0 pk_9_83 rfl rfl rfl rfl (by decide) dX9_idle_2 (fun H locs i1 ei1 hT hS => ?_)
  have hR1 := Rg_put hR ei1 0 0 rfl (rg_k (by decide) : rg 0 0 0) (by decide)
  refine lv_aload_n hx hb dX9_idle_5 rfl (lv_at hl 0 rfl) ?_
  refine r_Vi (As := []) (rest := []) X hT hS (k_X9_isTale hR1) mk_X9_isTale gm_1685 rfl rfl (by decide) hd_X9_isTale ⟨rfl, rfl⟩ ⟨Nat.le_of_ble_eq_true rfl, Nat.le_of_ble_eq_true rfl⟩ hl.1 rfl (Nat.le_of_ble_eq_true rfl) dX9_idle_6 ⟨Nat.zero_le _, Nat.zero_le _⟩ (fun r2 i2 g2 H locs hq hT hS => ?_)
  obtain ⟨eh2, rfl⟩ := hq
  rw [(Prod.mk.inj eh2).1, (Prod.mk.inj eh2).2] at hT
  refine lv_if_ne (tgt := 15) hx hb dX9_idle_9 (by decide) (fun c3 => (x_ne (rg_k (by decide) : rg 0 0 0) (rg_k (by decide) : rg 0 0 0) (i_ne c3) (by decide)).elim) (fun c3 => ?_)
  refine lv_bipush (v := (-2)) hx hb dX9_idle_12 (by decide) ?_
  exact hret (-2) _ _ _ _ _ _ dX9_idle_14 hT hS ⟨hR1, rfl⟩

set_option maxRecDepth 100000 in
set_option maxHeartbeats 4000000 in
theorem k_X9_few {l : Launch} {D : va_G} {h : Nat → Nat} {cz : Nat → ClassId} {i : Nat → Nat → Int32} {g : Nat → Nat → Int64} (hR : Rg rM i)  : CtI l yX9_few cX9_few 1 (some .int) ({ frames := 1, cells := 0, slots := 0, locals := 20 } : Room) D h cz i g [.ref (h 96)] (fun r u => Rg rM u.1 ∧ r = (-2)) := by
  refine k_I pn_X9_few (Nat.le_of_ble_eq_true rfl) ?_
  intro p e s m args below meth c ls Q X hret hT hl hS
  have hx := X.1
  have hb := X.2.1
  have hl : lv_has ls 1 [(0, .ref (h 96))] := hl
  refine lv_aload_n hx hb dX9_few_0 rfl (lv_at hl 0 rfl) ?_
  refine lv_iconst (v := 0) hx hb dX9_few_1 (by decide) ?_
  refine r_puti X hT hS 96 0 pk_9_83 rfl rfl rfl rfl (by decide) dX9_few_2 (fun H locs i1 ei1 hT hS => ?_)
  have hR1 := Rg_put hR ei1 0 0 rfl (rg_k (by decide) : rg 0 0 0) (by decide)
  refine lv_aload_n hx hb dX9_few_5 rfl (lv_at hl 0 rfl) ?_
  refine r_Vi (As := []) (rest := []) X hT hS (k_X9_isTale hR1) mk_X9_isTale gm_1685 rfl rfl (by decide) hd_X9_isTale ⟨rfl, rfl⟩ ⟨Nat.le_of_ble_eq_true rfl, Nat.le_of_ble_eq_true rfl⟩ hl.1 rfl (Nat.le_of_ble_eq_true rfl) dX9_few_6 ⟨Nat.zero_le _, Nat.zero_le _⟩ (fun r2 i2 g2 H locs hq hT hS => ?_)
  obtain ⟨eh2, rfl⟩ := hq
  rw [(Prod.mk.inj eh2).1, (Prod.mk.inj eh2).2] at hT
  refine lv_if_eq (tgt := 22) hx hb dX9_few_9 (by decide) (fun c3 => ?_) (fun c3 => (x_ne (rg_k (by decide) : rg 0 0 0) (rg_k (by decide) : rg 0 0 0) (i_ne c3) (by decide)).elim)
  refine lv_bipush (v := (-2)) hx hb dX9_few_22 (by decide) ?_
  exact hret (-2) _ _ _ _ _ _ dX9_few_24 hT hS ⟨hR1, rfl⟩

set_option maxRecDepth 100000 in
set_option maxHeartbeats 4000000 in
theorem k_X9_fews {l : Launch} {D : va_G} {h : Nat → Nat} {cz : Nat → ClassId} {i : Nat → Nat → Int32} {g : Nat → Nat → Int64} (hR : Rg rM i)  : CtI l yX9_fews cX9_fews 1 (some .int) ({ frames := 1, cells := 0, slots := 0, locals := 20 } : Room) D h cz i g [.ref (h 96)] (fun r u => Rg rM u.1 ∧ r = (-2)) := by
  refine k_I pn_X9_fews (Nat.le_of_ble_eq_true rfl) ?_
  intro p e s m args below meth c ls Q X hret hT hl hS
  have hx := X.1
  have hb := X.2.1
  have hl : lv_has ls 1 [(0, .ref (h 96))] := hl
  refine lv_aload_n hx hb dX9_fews_0 rfl (lv_at hl 0 rfl) ?_
  refine lv_iconst (v := 0) hx hb dX9_fews_1 (by decide) ?_
  refine r_puti X hT hS 96 0 pk_9_83 rfl rfl rfl rfl (by decide) dX9_fews_2 (fun H locs i1 ei1 hT hS => ?_)
  have hR1 := Rg_put hR ei1 0 0 rfl (rg_k (by decide) : rg 0 0 0) (by decide)
  refine lv_aload_n hx hb dX9_fews_5 rfl (lv_at hl 0 rfl) ?_
  refine r_Vi (As := []) (rest := []) X hT hS (k_X9_isTale hR1) mk_X9_isTale gm_1685 rfl rfl (by decide) hd_X9_isTale ⟨rfl, rfl⟩ ⟨Nat.le_of_ble_eq_true rfl, Nat.le_of_ble_eq_true rfl⟩ hl.1 rfl (Nat.le_of_ble_eq_true rfl) dX9_fews_6 ⟨Nat.zero_le _, Nat.zero_le _⟩ (fun r2 i2 g2 H locs hq hT hS => ?_)
  obtain ⟨eh2, rfl⟩ := hq
  rw [(Prod.mk.inj eh2).1, (Prod.mk.inj eh2).2] at hT
  refine lv_if_eq (tgt := 19) hx hb dX9_fews_9 (by decide) (fun c3 => ?_) (fun c3 => (x_ne (rg_k (by decide) : rg 0 0 0) (rg_k (by decide) : rg 0 0 0) (i_ne c3) (by decide)).elim)
  refine lv_bipush (v := (-2)) hx hb dX9_fews_19 (by decide) ?_
  exact hret (-2) _ _ _ _ _ _ dX9_fews_21 hT hS ⟨hR1, rfl⟩

set_option maxRecDepth 100000 in
set_option maxHeartbeats 4000000 in
theorem k_X9_worth {l : Launch} {D : va_G} {h : Nat → Nat} {cz : Nat → ClassId} {i : Nat → Nat → Int32} {g : Nat → Nat → Int64} (hR : Rg rM i) (a_a : Int32) : CtI l yX9_worth cX9_worth 2 (some .int) ({ frames := 1, cells := 0, slots := 0, locals := 20 } : Room) D h cz i g [.ref (h 96), .int a_a] (fun r u => Rg rM u.1 ∧ r = (-2)) := by
  refine k_I pn_X9_worth (Nat.le_of_ble_eq_true rfl) ?_
  intro p e s m args below meth c ls Q X hret hT hl hS
  have hx := X.1
  have hb := X.2.1
  have hl : lv_has ls 2 [(0, .ref (h 96)), (1, .int a_a)] := hl
  refine lv_aload_n hx hb dX9_worth_0 rfl (lv_at hl 0 rfl) ?_
  refine lv_iconst (v := 0) hx hb dX9_worth_1 (by decide) ?_
  refine r_puti X hT hS 96 0 pk_9_83 rfl rfl rfl rfl (by decide) dX9_worth_2 (fun H locs i1 ei1 hT hS => ?_)
  have hR1 := Rg_put hR ei1 0 0 rfl (rg_k (by decide) : rg 0 0 0) (by decide)
  refine lv_aload_n hx hb dX9_worth_5 rfl (lv_at hl 0 rfl) ?_
  refine r_Vi (As := []) (rest := []) X hT hS (k_X9_isTale hR1) mk_X9_isTale gm_1685 rfl rfl (by decide) hd_X9_isTale ⟨rfl, rfl⟩ ⟨Nat.le_of_ble_eq_true rfl, Nat.le_of_ble_eq_true rfl⟩ hl.1 rfl (Nat.le_of_ble_eq_true rfl) dX9_worth_6 ⟨Nat.zero_le _, Nat.zero_le _⟩ (fun r2 i2 g2 H locs hq hT hS => ?_)
  obtain ⟨eh2, rfl⟩ := hq
  rw [(Prod.mk.inj eh2).1, (Prod.mk.inj eh2).2] at hT
  refine lv_if_eq (tgt := 34) hx hb dX9_worth_9 (by decide) (fun c3 => ?_) (fun c3 => (x_ne (rg_k (by decide) : rg 0 0 0) (rg_k (by decide) : rg 0 0 0) (i_ne c3) (by decide)).elim)
  refine lv_bipush (v := (-2)) hx hb dX9_worth_34 (by decide) ?_
  exact hret (-2) _ _ _ _ _ _ dX9_worth_36 hT hS ⟨hR1, rfl⟩

set_option maxRecDepth 100000 in
set_option maxHeartbeats 4000000 in
theorem k_X9_share {l : Launch} {D : va_G} {h : Nat → Nat} {cz : Nat → ClassId} {i : Nat → Nat → Int32} {g : Nat → Nat → Int64} (hR : Rg rM i) (a_a : Int32) (a_b : Int32) : CtI l yX9_share cX9_share 6 (some .int) ({ frames := 2, cells := 0, slots := 0, locals := 47 } : Room) D h cz i g [.ref (h 96), .int a_a, .int a_b] (fun r u => Rg rM u.1 ∧ r = (-1000000)) := by
  refine k_I pn_X9_share (Nat.le_of_ble_eq_true rfl) ?_
  intro p e s m args below meth c ls Q X hret hT hl hS
  have hx := X.1
  have hb := X.2.1
  have hl : lv_has ls 6 [(0, .ref (h 96)), (1, .int a_a), (2, .int a_b)] := hl
  refine lv_aload_n hx hb dX9_share_0 rfl (lv_at hl 0 rfl) ?_
  refine lv_iconst (v := 0) hx hb dX9_share_1 (by decide) ?_
  refine r_puti X hT hS 96 0 pk_9_83 rfl rfl rfl rfl (by decide) dX9_share_2 (fun H locs i1 ei1 hT hS => ?_)
  have hR1 := Rg_put hR ei1 0 0 rfl (rg_k (by decide) : rg 0 0 0) (by decide)
  refine lv_aload_n hx hb dX9_share_5 rfl (lv_at hl 0 rfl) ?_
  refine lv_iload_n hx hb dX9_share_6 rfl (lv_at hl 1 rfl) ?_
  refine q_i2l hx hb dX9_share_7 (fun y2 ey2 => ?_)
  obtain ⟨hy2, ay2⟩ := rg_i2l ey2 (rg_top a_a)
  refine r_Vi (As := [.long y2]) (rest := []) X hT hS (k_X9_isPart hR1 y2) mk_X9_isPart gm_1645 rfl rfl (by decide) hd_X9_isPart ⟨rfl, rfl⟩ ⟨Nat.le_of_ble_eq_true rfl, Nat.le_of_ble_eq_true rfl⟩ hl.1 rfl (Nat.le_of_ble_eq_true rfl) dX9_share_8 ⟨Nat.zero_le _, Nat.zero_le _⟩ (fun r3 i3 g3 H locs hq hT hS => ?_)
  obtain ⟨eh3, rfl⟩ := hq
  rw [(Prod.mk.inj eh3).1, (Prod.mk.inj eh3).2] at hT
  refine lv_if_eq (tgt := 21) hx hb dX9_share_11 (by decide) (fun c4 => ?_) (fun c4 => (x_ne (rg_k (by decide) : rg 0 0 0) (rg_k (by decide) : rg 0 0 0) (i_ne c4) (by decide)).elim)
  refine lv_ldcw (v := (-1000000)) hx hb X.2.2.2.1 (X.2.2.2.2.1 _ gm_1905) dX9_share_21 ?_
  exact hret (-1000000) _ _ _ _ _ _ dX9_share_24 hT hS ⟨hR1, rfl⟩

set_option maxRecDepth 100000 in
set_option maxHeartbeats 4000000 in
theorem k_X9_isPlan {l : Launch} {D : va_G} {h : Nat → Nat} {cz : Nat → ClassId} {i : Nat → Nat → Int32} {g : Nat → Nat → Int64} (hR : Rg rM i) (a_a : Int32) : CtI l yX9_isPlan cX9_isPlan 2 (some .boolean) ({ frames := 1, cells := 0, slots := 0, locals := 20 } : Room) D h cz i g [.ref (h 96), .int a_a] (fun r u => u = (i, g) ∧ r = 0) := by
  refine k_Z (by intro v u hq; obtain ⟨-, hq⟩ := hq; exact Or.inl hq) pn_X9_isPlan (Nat.le_of_ble_eq_true rfl) ?_
  intro p e s m args below meth c ls Q X hret hT hl hS
  have hx := X.1
  have hb := X.2.1
  have hl : lv_has ls 2 [(0, .ref (h 96)), (1, .int a_a)] := hl
  refine lv_aload_n hx hb dX9_isPlan_0 rfl (lv_at hl 0 rfl) ?_
  refine r_Vi (As := []) (rest := []) X hT hS (k_X9_isTale hR) mk_X9_isTale gm_1685 rfl rfl (by decide) hd_X9_isTale ⟨rfl, rfl⟩ ⟨Nat.le_of_ble_eq_true rfl, Nat.le_of_ble_eq_true rfl⟩ hl.1 rfl (Nat.le_of_ble_eq_true rfl) dX9_isPlan_1 ⟨Nat.zero_le _, Nat.zero_le _⟩ (fun r1 i1 g1 H locs hq hT hS => ?_)
  obtain ⟨eh1, rfl⟩ := hq
  rw [(Prod.mk.inj eh1).1, (Prod.mk.inj eh1).2] at hT
  refine lv_if_eq (tgt := 29) hx hb dX9_isPlan_4 (by decide) (fun c2 => ?_) (fun c2 => (x_ne (rg_k (by decide) : rg 0 0 0) (rg_k (by decide) : rg 0 0 0) (i_ne c2) (by decide)).elim)
  refine lv_iconst (v := 0) hx hb dX9_isPlan_29 (by decide) ?_
  exact hret 0 _ _ _ _ _ _ dX9_isPlan_30 hT hS ⟨rfl, rfl⟩

set_option maxRecDepth 100000 in
set_option maxHeartbeats 4000000 in
theorem k_X9_plan {l : Launch} {D : va_G} {h : Nat → Nat} {cz : Nat → ClassId} {i : Nat → Nat → Int32} {g : Nat → Nat → Int64} (hR : Rg rM i) (a_a : Int32) : CtI l yX9_plan cX9_plan 2 (some .int) ({ frames := 2, cells := 0, slots := 0, locals := 41 } : Room) D h cz i g [.ref (h 96), .int a_a] (fun r u => Rg rM u.1 ∧ r = (-2)) := by
  refine k_I pn_X9_plan (Nat.le_of_ble_eq_true rfl) ?_
  intro p e s m args below meth c ls Q X hret hT hl hS
  have hx := X.1
  have hb := X.2.1
  have hl : lv_has ls 2 [(0, .ref (h 96)), (1, .int a_a)] := hl
  refine lv_aload_n hx hb dX9_plan_0 rfl (lv_at hl 0 rfl) ?_
  refine lv_iconst (v := 0) hx hb dX9_plan_1 (by decide) ?_
  refine r_puti X hT hS 96 0 pk_9_83 rfl rfl rfl rfl (by decide) dX9_plan_2 (fun H locs i1 ei1 hT hS => ?_)
  have hR1 := Rg_put hR ei1 0 0 rfl (rg_k (by decide) : rg 0 0 0) (by decide)
  refine lv_aload_n hx hb dX9_plan_5 rfl (lv_at hl 0 rfl) ?_
  refine lv_iload_n hx hb dX9_plan_6 rfl (lv_at hl 1 rfl) ?_
  refine r_Vi (As := [.int a_a]) (rest := []) X hT hS (k_X9_isPlan hR1 a_a) mk_X9_isPlan gm_1919 rfl rfl (by decide) hd_X9_isPlan ⟨rfl, rfl⟩ ⟨Nat.le_of_ble_eq_true rfl, Nat.le_of_ble_eq_true rfl⟩ hl.1 rfl (Nat.le_of_ble_eq_true rfl) dX9_plan_7 ⟨Nat.zero_le _, Nat.zero_le _⟩ (fun r2 i2 g2 H locs hq hT hS => ?_)
  obtain ⟨eh2, rfl⟩ := hq
  rw [(Prod.mk.inj eh2).1, (Prod.mk.inj eh2).2] at hT
  refine lv_if_ne (tgt := 16) hx hb dX9_plan_10 (by decide) (fun c3 => (x_ne (rg_k (by decide) : rg 0 0 0) (rg_k (by decide) : rg 0 0 0) (i_ne c3) (by decide)).elim) (fun c3 => ?_)
  refine lv_bipush (v := (-2)) hx hb dX9_plan_13 (by decide) ?_
  exact hret (-2) _ _ _ _ _ _ dX9_plan_15 hT hS ⟨hR1, rfl⟩

set_option maxRecDepth 100000 in
set_option maxHeartbeats 4000000 in
theorem k_X9_planned {l : Launch} {D : va_G} {h : Nat → Nat} {cz : Nat → ClassId} {i : Nat → Nat → Int32} {g : Nat → Nat → Int64} (hR : Rg rM i) (a_a : Int32) (a_b : Int32) : CtI l yX9_planned cX9_planned 3 (some .int) ({ frames := 2, cells := 0, slots := 0, locals := 41 } : Room) D h cz i g [.ref (h 96), .int a_a, .int a_b] (fun r u => Rg rM u.1 ∧ r = (-2)) := by
  refine k_I pn_X9_planned (Nat.le_of_ble_eq_true rfl) ?_
  intro p e s m args below meth c ls Q X hret hT hl hS
  have hx := X.1
  have hb := X.2.1
  have hl : lv_has ls 3 [(0, .ref (h 96)), (1, .int a_a), (2, .int a_b)] := hl
  refine lv_aload_n hx hb dX9_planned_0 rfl (lv_at hl 0 rfl) ?_
  refine lv_iconst (v := 0) hx hb dX9_planned_1 (by decide) ?_
  refine r_puti X hT hS 96 0 pk_9_83 rfl rfl rfl rfl (by decide) dX9_planned_2 (fun H locs i1 ei1 hT hS => ?_)
  have hR1 := Rg_put hR ei1 0 0 rfl (rg_k (by decide) : rg 0 0 0) (by decide)
  refine lv_aload_n hx hb dX9_planned_5 rfl (lv_at hl 0 rfl) ?_
  refine lv_iload_n hx hb dX9_planned_6 rfl (lv_at hl 1 rfl) ?_
  refine r_Vi (As := [.int a_a]) (rest := []) X hT hS (k_X9_isPlan hR1 a_a) mk_X9_isPlan gm_1919 rfl rfl (by decide) hd_X9_isPlan ⟨rfl, rfl⟩ ⟨Nat.le_of_ble_eq_true rfl, Nat.le_of_ble_eq_true rfl⟩ hl.1 rfl (Nat.le_of_ble_eq_true rfl) dX9_planned_7 ⟨Nat.zero_le _, Nat.zero_le _⟩ (fun r2 i2 g2 H locs hq hT hS => ?_)
  obtain ⟨eh2, rfl⟩ := hq
  rw [(Prod.mk.inj eh2).1, (Prod.mk.inj eh2).2] at hT
  refine lv_if_eq (tgt := 26) hx hb dX9_planned_10 (by decide) (fun c3 => ?_) (fun c3 => (x_ne (rg_k (by decide) : rg 0 0 0) (rg_k (by decide) : rg 0 0 0) (i_ne c3) (by decide)).elim)
  refine lv_bipush (v := (-2)) hx hb dX9_planned_26 (by decide) ?_
  exact hret (-2) _ _ _ _ _ _ dX9_planned_28 hT hS ⟨hR1, rfl⟩

set_option maxRecDepth 100000 in
set_option maxHeartbeats 4000000 in
theorem k_X9_plans {l : Launch} {D : va_G} {h : Nat → Nat} {cz : Nat → ClassId} {i : Nat → Nat → Int32} {g : Nat → Nat → Int64} (hR : Rg rM i) (a_a : Int32) : CtI l yX9_plans cX9_plans 2 (some .int) ({ frames := 2, cells := 0, slots := 0, locals := 41 } : Room) D h cz i g [.ref (h 96), .int a_a] (fun r u => Rg rM u.1 ∧ r = (-2)) := by
  refine k_I pn_X9_plans (Nat.le_of_ble_eq_true rfl) ?_
  intro p e s m args below meth c ls Q X hret hT hl hS
  have hx := X.1
  have hb := X.2.1
  have hl : lv_has ls 2 [(0, .ref (h 96)), (1, .int a_a)] := hl
  refine lv_aload_n hx hb dX9_plans_0 rfl (lv_at hl 0 rfl) ?_
  refine lv_iconst (v := 0) hx hb dX9_plans_1 (by decide) ?_
  refine r_puti X hT hS 96 0 pk_9_83 rfl rfl rfl rfl (by decide) dX9_plans_2 (fun H locs i1 ei1 hT hS => ?_)
  have hR1 := Rg_put hR ei1 0 0 rfl (rg_k (by decide) : rg 0 0 0) (by decide)
  refine lv_aload_n hx hb dX9_plans_5 rfl (lv_at hl 0 rfl) ?_
  refine lv_iload_n hx hb dX9_plans_6 rfl (lv_at hl 1 rfl) ?_
  refine r_Vi (As := [.int a_a]) (rest := []) X hT hS (k_X9_isPlan hR1 a_a) mk_X9_isPlan gm_1919 rfl rfl (by decide) hd_X9_isPlan ⟨rfl, rfl⟩ ⟨Nat.le_of_ble_eq_true rfl, Nat.le_of_ble_eq_true rfl⟩ hl.1 rfl (Nat.le_of_ble_eq_true rfl) dX9_plans_7 ⟨Nat.zero_le _, Nat.zero_le _⟩ (fun r2 i2 g2 H locs hq hT hS => ?_)
  obtain ⟨eh2, rfl⟩ := hq
  rw [(Prod.mk.inj eh2).1, (Prod.mk.inj eh2).2] at hT
  refine lv_if_ne (tgt := 16) hx hb dX9_plans_10 (by decide) (fun c3 => (x_ne (rg_k (by decide) : rg 0 0 0) (rg_k (by decide) : rg 0 0 0) (i_ne c3) (by decide)).elim) (fun c3 => ?_)
  refine lv_bipush (v := (-2)) hx hb dX9_plans_13 (by decide) ?_
  exact hret (-2) _ _ _ _ _ _ dX9_plans_15 hT hS ⟨hR1, rfl⟩

set_option maxRecDepth 100000 in
set_option maxHeartbeats 4000000 in
theorem k_M_isSlot {l : Launch} {D : va_G} {h : Nat → Nat} {cz : Nat → ClassId} {i : Nat → Nat → Int32} {g : Nat → Nat → Int64} (a_a : Int32) : CtI l yX9_isSlot cX9_isSlot 1 (some .boolean) ({ frames := 1, cells := 0, slots := 0, locals := 25 } : Room) D h cz i g [.int a_a] (fun r u => (u = (i, g) ∧ r = 1 ∧ rg 0 3 a_a) ∨ (u = (i, g) ∧ r = 0 ∧ (a_a.toInt < 0 ∨ 3 < a_a.toInt))) := by
  refine k_Z (by intro v u hq; rcases hq with ⟨-, hq, -⟩ | ⟨-, hq, -⟩ <;> first | exact Or.inl hq | exact Or.inr hq) pn_X9_isSlot (Nat.le_of_ble_eq_true rfl) ?_
  intro p e s m args below meth c ls Q X hret hT hl hS
  have hx := X.1
  have hb := X.2.1
  have hl : lv_has ls 1 [(0, .int a_a)] := hl
  refine lv_iload_n hx hb dX9_isSlot_0 rfl (lv_at hl 0 rfl) ?_
  refine q_i2l hx hb dX9_isSlot_1 (fun y1 ey1 => ?_)
  obtain ⟨hy1, ay1⟩ := rg_i2l ey1 (rg_top a_a)
  refine lv_lconst (v := 0) hx hb dX9_isSlot_2 (by decide) ?_
  refine lv_ldc2 (v := 3) hx hb X.2.2.2.1 (X.2.2.2.2.1 _ gm_1495) dX9_isSlot_3 ?_
  refine r_Si (As := [.long y1, .long 0, .long 3]) (rest := []) X hT hS (k_in y1 (0) (3)) sk_X9_in gm_1496 hd_X9_in ⟨rfl, rfl⟩ ⟨Nat.le_of_ble_eq_true rfl, Nat.le_of_ble_eq_true rfl⟩ hl.1 rfl (Nat.le_of_ble_eq_true rfl) dX9_isSlot_6 ⟨Nat.zero_le _, Nat.zero_le _⟩ (fun r2 i2 g2 H locs hq hT hS => ?_)
  rcases hq with hq | hq
  ·
    obtain ⟨eh2, rfl, hf2_0⟩ := hq
    rw [(Prod.mk.inj eh2).1, (Prod.mk.inj eh2).2] at hT
    replace hf2_0 : 0 ≤ y1.toInt ∧ y1.toInt ≤ 3 := hf2_0
    have h3 : rgL 0 3 y1 := ⟨by have := hy1.1; have := hy1.2; omega, by have := hy1.1; have := hy1.2; omega⟩
    have h4 : rg 0 3 a_a := ⟨by have := h3.1; omega, by have := h3.2; omega⟩
    exact hret 1 _ _ _ _ _ _ dX9_isSlot_9 hT hS (Or.inl ⟨rfl, rfl, h4⟩)
  ·
    obtain ⟨eh2, rfl, hf2_0⟩ := hq
    rw [(Prod.mk.inj eh2).1, (Prod.mk.inj eh2).2] at hT
    replace hf2_0 : y1.toInt < 0 ∨ 3 < y1.toInt := hf2_0
    exact hret 0 _ _ _ _ _ _ dX9_isSlot_9 hT hS (Or.inr ⟨rfl, rfl, (by omega)⟩)

set_option maxRecDepth 100000 in
set_option maxHeartbeats 4000000 in
theorem k_X9_whyNot {l : Launch} {D : va_G} {h : Nat → Nat} {cz : Nat → ClassId} {i : Nat → Nat → Int32} {g : Nat → Nat → Int64} (hR : Rg rM i) (a_a : Int32) (a_b : Int32) (ha_b : rg 0 1 a_b) : CtI l yX9_whyNot cX9_whyNot 5 (some .int) ({ frames := 2, cells := 0, slots := 0, locals := 45 } : Room) D h cz i g [.ref (h 96), .int a_a, .int a_b] (fun r u => u = (i, g) ∧ r = (-2)) := by
  refine k_I pn_X9_whyNot (Nat.le_of_ble_eq_true rfl) ?_
  intro p e s m args below meth c ls Q X hret hT hl hS
  have hx := X.1
  have hb := X.2.1
  have hl : lv_has ls 5 [(0, .ref (h 96)), (1, .int a_a), (2, .int a_b)] := hl
  refine lv_iload_n hx hb dX9_whyNot_0 rfl (lv_at hl 1 rfl) ?_
  refine r_Si (As := [.int a_a]) (rest := []) X hT hS (k_M_isSlot a_a) sk_X9_isSlot gm_1492 hd_X9_isSlot ⟨rfl, rfl⟩ ⟨Nat.le_of_ble_eq_true rfl, Nat.le_of_ble_eq_true rfl⟩ hl.1 rfl (Nat.le_of_ble_eq_true rfl) dX9_whyNot_1 ⟨Nat.zero_le _, Nat.zero_le _⟩ (fun r1 i1 g1 H locs hq hT hS => ?_)
  rcases hq with hq | hq
  ·
    obtain ⟨eh1, rfl, hf1_0⟩ := hq
    rw [(Prod.mk.inj eh1).1, (Prod.mk.inj eh1).2] at hT
    have h2 : rg 0 3 a_a := ⟨by have := (rg_top a_a).1; have := hf1_0.1; omega, by have := (rg_top a_a).2; have := hf1_0.2; omega⟩
    refine lv_if_eq (tgt := 18) hx hb dX9_whyNot_4 (by decide) (fun c3 => (x_eq (rg_k (by decide) : rg 1 1 1) (rg_k (by decide) : rg 0 0 0) (i_eq c3) (by decide)).elim) (fun c3 => ?_)
    refine lv_aload_n hx hb dX9_whyNot_7 rfl (lv_at hl 0 rfl) ?_
    refine r_Vi (As := []) (rest := []) X hT hS (k_X9_isTale hR) mk_X9_isTale gm_1685 rfl rfl (by decide) hd_X9_isTale ⟨rfl, rfl⟩ ⟨Nat.le_of_ble_eq_true rfl, Nat.le_of_ble_eq_true rfl⟩ hl.1 rfl (Nat.le_of_ble_eq_true rfl) dX9_whyNot_8 ⟨Nat.zero_le _, Nat.zero_le _⟩ (fun r4 i4 g4 H locs hq hT hS => ?_)
    obtain ⟨eh4, rfl⟩ := hq
    rw [(Prod.mk.inj eh4).1, (Prod.mk.inj eh4).2] at hT
    refine lv_if_eq (tgt := 18) hx hb dX9_whyNot_11 (by decide) (fun c5 => ?_) (fun c5 => (x_ne (rg_k (by decide) : rg 0 0 0) (rg_k (by decide) : rg 0 0 0) (i_ne c5) (by decide)).elim)
    refine lv_bipush (v := (-2)) hx hb dX9_whyNot_18 (by decide) ?_
    exact hret (-2) _ _ _ _ _ _ dX9_whyNot_20 hT hS ⟨rfl, rfl⟩
  ·
    obtain ⟨eh1, rfl, hf1_0⟩ := hq
    rw [(Prod.mk.inj eh1).1, (Prod.mk.inj eh1).2] at hT
    refine lv_if_eq (tgt := 18) hx hb dX9_whyNot_4 (by decide) (fun c6 => ?_) (fun c6 => (x_ne (rg_k (by decide) : rg 0 0 0) (rg_k (by decide) : rg 0 0 0) (i_ne c6) (by decide)).elim)
    refine lv_bipush (v := (-2)) hx hb dX9_whyNot_18 (by decide) ?_
    exact hret (-2) _ _ _ _ _ _ dX9_whyNot_20 hT hS ⟨rfl, rfl⟩

set_option maxRecDepth 100000 in
set_option maxHeartbeats 4000000 in
theorem k_X9_stiffs {l : Launch} {D : va_G} {h : Nat → Nat} {cz : Nat → ClassId} {i : Nat → Nat → Int32} {g : Nat → Nat → Int64} (hR : Rg rM i) (a_a : Int32) (a_b : Int32) : CtI l yX9_stiffs cX9_stiffs 4 (some .int) ({ frames := 3, cells := 0, slots := 0, locals := 69 } : Room) D h cz i g [.ref (h 96), .int a_a, .int a_b] (fun r u => Rg rM u.1 ∧ r = (-2)) := by
  refine k_I pn_X9_stiffs (Nat.le_of_ble_eq_true rfl) ?_
  intro p e s m args below meth c ls Q X hret hT hl hS
  have hx := X.1
  have hb := X.2.1
  have hl : lv_has ls 4 [(0, .ref (h 96)), (1, .int a_a), (2, .int a_b)] := hl
  refine lv_aload_n hx hb dX9_stiffs_0 rfl (lv_at hl 0 rfl) ?_
  refine lv_iconst (v := 0) hx hb dX9_stiffs_1 (by decide) ?_
  refine r_puti X hT hS 96 0 pk_9_83 rfl rfl rfl rfl (by decide) dX9_stiffs_2 (fun H locs i1 ei1 hT hS => ?_)
  have hR1 := Rg_put hR ei1 0 0 rfl (rg_k (by decide) : rg 0 0 0) (by decide)
  refine lv_aload_n hx hb dX9_stiffs_5 rfl (lv_at hl 0 rfl) ?_
  refine lv_iload_n hx hb dX9_stiffs_6 rfl (lv_at hl 1 rfl) ?_
  refine lv_aload_n hx hb dX9_stiffs_7 rfl (lv_at hl 0 rfl) ?_
  refine lv_iload_n hx hb dX9_stiffs_8 rfl (lv_at hl 2 rfl) ?_
  refine q_i2l hx hb dX9_stiffs_9 (fun y2 ey2 => ?_)
  obtain ⟨hy2, ay2⟩ := rg_i2l ey2 (rg_top a_b)
  refine r_Vi (As := [.long y2]) (rest := [.int a_a, .ref (h 96)]) X hT hS (k_X9_isPart hR1 y2) mk_X9_isPart gm_1645 rfl rfl (by decide) hd_X9_isPart ⟨rfl, rfl⟩ ⟨Nat.le_of_ble_eq_true rfl, Nat.le_of_ble_eq_true rfl⟩ hl.1 rfl (Nat.le_of_ble_eq_true rfl) dX9_stiffs_10 ⟨Nat.zero_le _, Nat.zero_le _⟩ (fun r3 i3 g3 H locs hq hT hS => ?_)
  obtain ⟨eh3, rfl⟩ := hq
  rw [(Prod.mk.inj eh3).1, (Prod.mk.inj eh3).2] at hT
  refine r_Vi (As := [.int a_a, .int 0]) (rest := []) X hT hS (k_X9_whyNot hR1 a_a (0) (rg_w (rg_k (by decide) : rg 0 0 0) (by decide) : rg 0 1 0)) mk_X9_whyNot gm_1947 rfl rfl (by decide) hd_X9_whyNot ⟨rfl, rfl⟩ ⟨Nat.le_of_ble_eq_true rfl, Nat.le_of_ble_eq_true rfl⟩ hl.1 rfl (Nat.le_of_ble_eq_true rfl) dX9_stiffs_13 ⟨Nat.zero_le _, Nat.zero_le _⟩ (fun r4 i4 g4 H locs hq hT hS => ?_)
  obtain ⟨eh4, rfl⟩ := hq
  rw [(Prod.mk.inj eh4).1, (Prod.mk.inj eh4).2] at hT
  refine lv_istore_n (lv' := [(3, .int (-2)), (0, .ref (h 96)), (1, .int a_a), (2, .int a_b)]) hx hb dX9_stiffs_16 rfl hl (by decide) rfl (fun ls hl => ?_)
  refine lv_iload_n hx hb dX9_stiffs_17 rfl (lv_at hl 0 rfl) ?_
  refine lv_if_eq (tgt := 23) hx hb dX9_stiffs_18 (by decide) (fun c5 => (x_eq (rg_k (by decide) : rg (-2) (-2) (-2)) (rg_k (by decide) : rg 0 0 0) (i_eq c5) (by decide)).elim) (fun c5 => ?_)
  refine lv_iload_n hx hb dX9_stiffs_21 rfl (lv_at hl 0 rfl) ?_
  exact hret (-2) _ _ _ _ _ _ dX9_stiffs_22 hT hS ⟨hR1, rfl⟩

set_option maxRecDepth 100000 in
set_option maxHeartbeats 4000000 in
theorem k_X9_low {l : Launch} {D : va_G} {h : Nat → Nat} {cz : Nat → ClassId} {i : Nat → Nat → Int32} {g : Nat → Nat → Int64} (hR : Rg rM i) (a_a : Int32) (a_b : Int32) : CtI l yX9_low cX9_low 4 (some .int) ({ frames := 3, cells := 0, slots := 0, locals := 69 } : Room) D h cz i g [.ref (h 96), .int a_a, .int a_b] (fun r u => Rg rM u.1 ∧ r = (-2)) := by
  refine k_I pn_X9_low (Nat.le_of_ble_eq_true rfl) ?_
  intro p e s m args below meth c ls Q X hret hT hl hS
  have hx := X.1
  have hb := X.2.1
  have hl : lv_has ls 4 [(0, .ref (h 96)), (1, .int a_a), (2, .int a_b)] := hl
  refine lv_aload_n hx hb dX9_low_0 rfl (lv_at hl 0 rfl) ?_
  refine lv_iconst (v := 0) hx hb dX9_low_1 (by decide) ?_
  refine r_puti X hT hS 96 0 pk_9_83 rfl rfl rfl rfl (by decide) dX9_low_2 (fun H locs i1 ei1 hT hS => ?_)
  have hR1 := Rg_put hR ei1 0 0 rfl (rg_k (by decide) : rg 0 0 0) (by decide)
  refine lv_aload_n hx hb dX9_low_5 rfl (lv_at hl 0 rfl) ?_
  refine lv_iload_n hx hb dX9_low_6 rfl (lv_at hl 1 rfl) ?_
  refine lv_aload_n hx hb dX9_low_7 rfl (lv_at hl 0 rfl) ?_
  refine lv_iload_n hx hb dX9_low_8 rfl (lv_at hl 2 rfl) ?_
  refine q_i2l hx hb dX9_low_9 (fun y2 ey2 => ?_)
  obtain ⟨hy2, ay2⟩ := rg_i2l ey2 (rg_top a_b)
  refine r_Vi (As := [.long y2]) (rest := [.int a_a, .ref (h 96)]) X hT hS (k_X9_isPart hR1 y2) mk_X9_isPart gm_1645 rfl rfl (by decide) hd_X9_isPart ⟨rfl, rfl⟩ ⟨Nat.le_of_ble_eq_true rfl, Nat.le_of_ble_eq_true rfl⟩ hl.1 rfl (Nat.le_of_ble_eq_true rfl) dX9_low_10 ⟨Nat.zero_le _, Nat.zero_le _⟩ (fun r3 i3 g3 H locs hq hT hS => ?_)
  obtain ⟨eh3, rfl⟩ := hq
  rw [(Prod.mk.inj eh3).1, (Prod.mk.inj eh3).2] at hT
  refine r_Vi (As := [.int a_a, .int 0]) (rest := []) X hT hS (k_X9_whyNot hR1 a_a (0) (rg_w (rg_k (by decide) : rg 0 0 0) (by decide) : rg 0 1 0)) mk_X9_whyNot gm_1947 rfl rfl (by decide) hd_X9_whyNot ⟨rfl, rfl⟩ ⟨Nat.le_of_ble_eq_true rfl, Nat.le_of_ble_eq_true rfl⟩ hl.1 rfl (Nat.le_of_ble_eq_true rfl) dX9_low_13 ⟨Nat.zero_le _, Nat.zero_le _⟩ (fun r4 i4 g4 H locs hq hT hS => ?_)
  obtain ⟨eh4, rfl⟩ := hq
  rw [(Prod.mk.inj eh4).1, (Prod.mk.inj eh4).2] at hT
  refine lv_istore_n (lv' := [(3, .int (-2)), (0, .ref (h 96)), (1, .int a_a), (2, .int a_b)]) hx hb dX9_low_16 rfl hl (by decide) rfl (fun ls hl => ?_)
  refine lv_iload_n hx hb dX9_low_17 rfl (lv_at hl 0 rfl) ?_
  refine lv_if_eq (tgt := 23) hx hb dX9_low_18 (by decide) (fun c5 => (x_eq (rg_k (by decide) : rg (-2) (-2) (-2)) (rg_k (by decide) : rg 0 0 0) (i_eq c5) (by decide)).elim) (fun c5 => ?_)
  refine lv_iload_n hx hb dX9_low_21 rfl (lv_at hl 0 rfl) ?_
  exact hret (-2) _ _ _ _ _ _ dX9_low_22 hT hS ⟨hR1, rfl⟩

set_option maxRecDepth 100000 in
set_option maxHeartbeats 4000000 in
theorem k_X9_high {l : Launch} {D : va_G} {h : Nat → Nat} {cz : Nat → ClassId} {i : Nat → Nat → Int32} {g : Nat → Nat → Int64} (hR : Rg rM i) (a_a : Int32) (a_b : Int32) : CtI l yX9_high cX9_high 4 (some .int) ({ frames := 3, cells := 0, slots := 0, locals := 69 } : Room) D h cz i g [.ref (h 96), .int a_a, .int a_b] (fun r u => Rg rM u.1 ∧ r = (-2)) := by
  refine k_I pn_X9_high (Nat.le_of_ble_eq_true rfl) ?_
  intro p e s m args below meth c ls Q X hret hT hl hS
  have hx := X.1
  have hb := X.2.1
  have hl : lv_has ls 4 [(0, .ref (h 96)), (1, .int a_a), (2, .int a_b)] := hl
  refine lv_aload_n hx hb dX9_high_0 rfl (lv_at hl 0 rfl) ?_
  refine lv_iconst (v := 0) hx hb dX9_high_1 (by decide) ?_
  refine r_puti X hT hS 96 0 pk_9_83 rfl rfl rfl rfl (by decide) dX9_high_2 (fun H locs i1 ei1 hT hS => ?_)
  have hR1 := Rg_put hR ei1 0 0 rfl (rg_k (by decide) : rg 0 0 0) (by decide)
  refine lv_aload_n hx hb dX9_high_5 rfl (lv_at hl 0 rfl) ?_
  refine lv_iload_n hx hb dX9_high_6 rfl (lv_at hl 1 rfl) ?_
  refine lv_aload_n hx hb dX9_high_7 rfl (lv_at hl 0 rfl) ?_
  refine lv_iload_n hx hb dX9_high_8 rfl (lv_at hl 2 rfl) ?_
  refine q_i2l hx hb dX9_high_9 (fun y2 ey2 => ?_)
  obtain ⟨hy2, ay2⟩ := rg_i2l ey2 (rg_top a_b)
  refine r_Vi (As := [.long y2]) (rest := [.int a_a, .ref (h 96)]) X hT hS (k_X9_isPart hR1 y2) mk_X9_isPart gm_1645 rfl rfl (by decide) hd_X9_isPart ⟨rfl, rfl⟩ ⟨Nat.le_of_ble_eq_true rfl, Nat.le_of_ble_eq_true rfl⟩ hl.1 rfl (Nat.le_of_ble_eq_true rfl) dX9_high_10 ⟨Nat.zero_le _, Nat.zero_le _⟩ (fun r3 i3 g3 H locs hq hT hS => ?_)
  obtain ⟨eh3, rfl⟩ := hq
  rw [(Prod.mk.inj eh3).1, (Prod.mk.inj eh3).2] at hT
  refine r_Vi (As := [.int a_a, .int 0]) (rest := []) X hT hS (k_X9_whyNot hR1 a_a (0) (rg_w (rg_k (by decide) : rg 0 0 0) (by decide) : rg 0 1 0)) mk_X9_whyNot gm_1947 rfl rfl (by decide) hd_X9_whyNot ⟨rfl, rfl⟩ ⟨Nat.le_of_ble_eq_true rfl, Nat.le_of_ble_eq_true rfl⟩ hl.1 rfl (Nat.le_of_ble_eq_true rfl) dX9_high_13 ⟨Nat.zero_le _, Nat.zero_le _⟩ (fun r4 i4 g4 H locs hq hT hS => ?_)
  obtain ⟨eh4, rfl⟩ := hq
  rw [(Prod.mk.inj eh4).1, (Prod.mk.inj eh4).2] at hT
  refine lv_istore_n (lv' := [(3, .int (-2)), (0, .ref (h 96)), (1, .int a_a), (2, .int a_b)]) hx hb dX9_high_16 rfl hl (by decide) rfl (fun ls hl => ?_)
  refine lv_iload_n hx hb dX9_high_17 rfl (lv_at hl 0 rfl) ?_
  refine lv_if_eq (tgt := 23) hx hb dX9_high_18 (by decide) (fun c5 => (x_eq (rg_k (by decide) : rg (-2) (-2) (-2)) (rg_k (by decide) : rg 0 0 0) (i_eq c5) (by decide)).elim) (fun c5 => ?_)
  refine lv_iload_n hx hb dX9_high_21 rfl (lv_at hl 0 rfl) ?_
  exact hret (-2) _ _ _ _ _ _ dX9_high_22 hT hS ⟨hR1, rfl⟩

set_option maxRecDepth 100000 in
set_option maxHeartbeats 4000000 in
theorem k_X9_ask {l : Launch} {D : va_G} {h : Nat → Nat} {cz : Nat → ClassId} {i : Nat → Nat → Int32} {g : Nat → Nat → Int64} (hR : Rg rM i) (a_a : Int32) (a_b : Int32) : CtI l yX9_ask cX9_ask 4 (some .int) ({ frames := 3, cells := 0, slots := 0, locals := 69 } : Room) D h cz i g [.ref (h 96), .int a_a, .int a_b] (fun r u => Rg rM u.1 ∧ r = (-2)) := by
  refine k_I pn_X9_ask (Nat.le_of_ble_eq_true rfl) ?_
  intro p e s m args below meth c ls Q X hret hT hl hS
  have hx := X.1
  have hb := X.2.1
  have hl : lv_has ls 4 [(0, .ref (h 96)), (1, .int a_a), (2, .int a_b)] := hl
  refine lv_aload_n hx hb dX9_ask_0 rfl (lv_at hl 0 rfl) ?_
  refine lv_iconst (v := 0) hx hb dX9_ask_1 (by decide) ?_
  refine r_puti X hT hS 96 0 pk_9_83 rfl rfl rfl rfl (by decide) dX9_ask_2 (fun H locs i1 ei1 hT hS => ?_)
  have hR1 := Rg_put hR ei1 0 0 rfl (rg_k (by decide) : rg 0 0 0) (by decide)
  refine lv_aload_n hx hb dX9_ask_5 rfl (lv_at hl 0 rfl) ?_
  refine lv_iload_n hx hb dX9_ask_6 rfl (lv_at hl 1 rfl) ?_
  refine lv_aload_n hx hb dX9_ask_7 rfl (lv_at hl 0 rfl) ?_
  refine lv_iload_n hx hb dX9_ask_8 rfl (lv_at hl 2 rfl) ?_
  refine q_i2l hx hb dX9_ask_9 (fun y2 ey2 => ?_)
  obtain ⟨hy2, ay2⟩ := rg_i2l ey2 (rg_top a_b)
  refine r_Vi (As := [.long y2]) (rest := [.int a_a, .ref (h 96)]) X hT hS (k_X9_isPart hR1 y2) mk_X9_isPart gm_1645 rfl rfl (by decide) hd_X9_isPart ⟨rfl, rfl⟩ ⟨Nat.le_of_ble_eq_true rfl, Nat.le_of_ble_eq_true rfl⟩ hl.1 rfl (Nat.le_of_ble_eq_true rfl) dX9_ask_10 ⟨Nat.zero_le _, Nat.zero_le _⟩ (fun r3 i3 g3 H locs hq hT hS => ?_)
  obtain ⟨eh3, rfl⟩ := hq
  rw [(Prod.mk.inj eh3).1, (Prod.mk.inj eh3).2] at hT
  refine r_Vi (As := [.int a_a, .int 0]) (rest := []) X hT hS (k_X9_whyNot hR1 a_a (0) (rg_w (rg_k (by decide) : rg 0 0 0) (by decide) : rg 0 1 0)) mk_X9_whyNot gm_1947 rfl rfl (by decide) hd_X9_whyNot ⟨rfl, rfl⟩ ⟨Nat.le_of_ble_eq_true rfl, Nat.le_of_ble_eq_true rfl⟩ hl.1 rfl (Nat.le_of_ble_eq_true rfl) dX9_ask_13 ⟨Nat.zero_le _, Nat.zero_le _⟩ (fun r4 i4 g4 H locs hq hT hS => ?_)
  obtain ⟨eh4, rfl⟩ := hq
  rw [(Prod.mk.inj eh4).1, (Prod.mk.inj eh4).2] at hT
  refine lv_istore_n (lv' := [(3, .int (-2)), (0, .ref (h 96)), (1, .int a_a), (2, .int a_b)]) hx hb dX9_ask_16 rfl hl (by decide) rfl (fun ls hl => ?_)
  refine lv_iload_n hx hb dX9_ask_17 rfl (lv_at hl 0 rfl) ?_
  refine lv_if_eq (tgt := 23) hx hb dX9_ask_18 (by decide) (fun c5 => (x_eq (rg_k (by decide) : rg (-2) (-2) (-2)) (rg_k (by decide) : rg 0 0 0) (i_eq c5) (by decide)).elim) (fun c5 => ?_)
  refine lv_iload_n hx hb dX9_ask_21 rfl (lv_at hl 0 rfl) ?_
  exact hret (-2) _ _ _ _ _ _ dX9_ask_22 hT hS ⟨hR1, rfl⟩

set_option maxRecDepth 100000 in
set_option maxHeartbeats 4000000 in
theorem k_X9_leaves {l : Launch} {D : va_G} {h : Nat → Nat} {cz : Nat → ClassId} {i : Nat → Nat → Int32} {g : Nat → Nat → Int64} (hR : Rg rM i) (a_a : Int32) (a_b : Int32) : CtI l yX9_leaves cX9_leaves 4 (some .int) ({ frames := 3, cells := 0, slots := 0, locals := 69 } : Room) D h cz i g [.ref (h 96), .int a_a, .int a_b] (fun r u => Rg rM u.1 ∧ r = (-2)) := by
  refine k_I pn_X9_leaves (Nat.le_of_ble_eq_true rfl) ?_
  intro p e s m args below meth c ls Q X hret hT hl hS
  have hx := X.1
  have hb := X.2.1
  have hl : lv_has ls 4 [(0, .ref (h 96)), (1, .int a_a), (2, .int a_b)] := hl
  refine lv_aload_n hx hb dX9_leaves_0 rfl (lv_at hl 0 rfl) ?_
  refine lv_iconst (v := 0) hx hb dX9_leaves_1 (by decide) ?_
  refine r_puti X hT hS 96 0 pk_9_83 rfl rfl rfl rfl (by decide) dX9_leaves_2 (fun H locs i1 ei1 hT hS => ?_)
  have hR1 := Rg_put hR ei1 0 0 rfl (rg_k (by decide) : rg 0 0 0) (by decide)
  refine lv_aload_n hx hb dX9_leaves_5 rfl (lv_at hl 0 rfl) ?_
  refine lv_iload_n hx hb dX9_leaves_6 rfl (lv_at hl 1 rfl) ?_
  refine lv_aload_n hx hb dX9_leaves_7 rfl (lv_at hl 0 rfl) ?_
  refine lv_iload_n hx hb dX9_leaves_8 rfl (lv_at hl 2 rfl) ?_
  refine q_i2l hx hb dX9_leaves_9 (fun y2 ey2 => ?_)
  obtain ⟨hy2, ay2⟩ := rg_i2l ey2 (rg_top a_b)
  refine r_Vi (As := [.long y2]) (rest := [.int a_a, .ref (h 96)]) X hT hS (k_X9_isPart hR1 y2) mk_X9_isPart gm_1645 rfl rfl (by decide) hd_X9_isPart ⟨rfl, rfl⟩ ⟨Nat.le_of_ble_eq_true rfl, Nat.le_of_ble_eq_true rfl⟩ hl.1 rfl (Nat.le_of_ble_eq_true rfl) dX9_leaves_10 ⟨Nat.zero_le _, Nat.zero_le _⟩ (fun r3 i3 g3 H locs hq hT hS => ?_)
  obtain ⟨eh3, rfl⟩ := hq
  rw [(Prod.mk.inj eh3).1, (Prod.mk.inj eh3).2] at hT
  refine r_Vi (As := [.int a_a, .int 0]) (rest := []) X hT hS (k_X9_whyNot hR1 a_a (0) (rg_w (rg_k (by decide) : rg 0 0 0) (by decide) : rg 0 1 0)) mk_X9_whyNot gm_1947 rfl rfl (by decide) hd_X9_whyNot ⟨rfl, rfl⟩ ⟨Nat.le_of_ble_eq_true rfl, Nat.le_of_ble_eq_true rfl⟩ hl.1 rfl (Nat.le_of_ble_eq_true rfl) dX9_leaves_13 ⟨Nat.zero_le _, Nat.zero_le _⟩ (fun r4 i4 g4 H locs hq hT hS => ?_)
  obtain ⟨eh4, rfl⟩ := hq
  rw [(Prod.mk.inj eh4).1, (Prod.mk.inj eh4).2] at hT
  refine lv_istore_n (lv' := [(3, .int (-2)), (0, .ref (h 96)), (1, .int a_a), (2, .int a_b)]) hx hb dX9_leaves_16 rfl hl (by decide) rfl (fun ls hl => ?_)
  refine lv_iload_n hx hb dX9_leaves_17 rfl (lv_at hl 0 rfl) ?_
  refine lv_if_eq (tgt := 23) hx hb dX9_leaves_18 (by decide) (fun c5 => (x_eq (rg_k (by decide) : rg (-2) (-2) (-2)) (rg_k (by decide) : rg 0 0 0) (i_eq c5) (by decide)).elim) (fun c5 => ?_)
  refine lv_iload_n hx hb dX9_leaves_21 rfl (lv_at hl 0 rfl) ?_
  exact hret (-2) _ _ _ _ _ _ dX9_leaves_22 hT hS ⟨hR1, rfl⟩

set_option maxRecDepth 100000 in
set_option maxHeartbeats 4000000 in
theorem k_X9_laws {l : Launch} {D : va_G} {h : Nat → Nat} {cz : Nat → ClassId} {i : Nat → Nat → Int32} {g : Nat → Nat → Int64} (hR : Rg rM i) (a_a : Int32) : CtI l yX9_laws cX9_laws 5 (some .int) ({ frames := 3, cells := 0, slots := 0, locals := 69 } : Room) D h cz i g [.ref (h 96), .int a_a] (fun r u => Rg rM u.1 ∧ r = (-2)) := by
  refine k_I pn_X9_laws (Nat.le_of_ble_eq_true rfl) ?_
  intro p e s m args below meth c ls Q X hret hT hl hS
  have hx := X.1
  have hb := X.2.1
  have hl : lv_has ls 5 [(0, .ref (h 96)), (1, .int a_a)] := hl
  refine lv_aload_n hx hb dX9_laws_0 rfl (lv_at hl 0 rfl) ?_
  refine lv_iconst (v := 0) hx hb dX9_laws_1 (by decide) ?_
  refine r_puti X hT hS 96 0 pk_9_83 rfl rfl rfl rfl (by decide) dX9_laws_2 (fun H locs i1 ei1 hT hS => ?_)
  have hR1 := Rg_put hR ei1 0 0 rfl (rg_k (by decide) : rg 0 0 0) (by decide)
  refine lv_aload_n hx hb dX9_laws_5 rfl (lv_at hl 0 rfl) ?_
  refine lv_iload_n hx hb dX9_laws_6 rfl (lv_at hl 1 rfl) ?_
  refine lv_iconst (v := 1) hx hb dX9_laws_7 (by decide) ?_
  refine r_Vi (As := [.int a_a, .int 1]) (rest := []) X hT hS (k_X9_whyNot hR1 a_a (1) (rg_w (rg_k (by decide) : rg 1 1 1) (by decide) : rg 0 1 1)) mk_X9_whyNot gm_1947 rfl rfl (by decide) hd_X9_whyNot ⟨rfl, rfl⟩ ⟨Nat.le_of_ble_eq_true rfl, Nat.le_of_ble_eq_true rfl⟩ hl.1 rfl (Nat.le_of_ble_eq_true rfl) dX9_laws_8 ⟨Nat.zero_le _, Nat.zero_le _⟩ (fun r2 i2 g2 H locs hq hT hS => ?_)
  obtain ⟨eh2, rfl⟩ := hq
  rw [(Prod.mk.inj eh2).1, (Prod.mk.inj eh2).2] at hT
  refine lv_istore_n (lv' := [(2, .int (-2)), (0, .ref (h 96)), (1, .int a_a)]) hx hb dX9_laws_11 rfl hl (by decide) rfl (fun ls hl => ?_)
  refine lv_iload_n hx hb dX9_laws_12 rfl (lv_at hl 0 rfl) ?_
  refine lv_if_eq (tgt := 18) hx hb dX9_laws_13 (by decide) (fun c3 => (x_eq (rg_k (by decide) : rg (-2) (-2) (-2)) (rg_k (by decide) : rg 0 0 0) (i_eq c3) (by decide)).elim) (fun c3 => ?_)
  refine lv_iload_n hx hb dX9_laws_16 rfl (lv_at hl 0 rfl) ?_
  exact hret (-2) _ _ _ _ _ _ dX9_laws_17 hT hS ⟨hR1, rfl⟩

set_option maxRecDepth 100000 in
set_option maxHeartbeats 4000000 in
theorem k_X9_by {l : Launch} {D : va_G} {h : Nat → Nat} {cz : Nat → ClassId} {i : Nat → Nat → Int32} {g : Nat → Nat → Int64} (hR : Rg rM i) (a_a : Int32) : CtI l yX9_by cX9_by 2 (some .int) ({ frames := 1, cells := 0, slots := 0, locals := 20 } : Room) D h cz i g [.ref (h 96), .int a_a] (fun r u => Rg rM u.1 ∧ r = (-2)) := by
  refine k_I pn_X9_by (Nat.le_of_ble_eq_true rfl) ?_
  intro p e s m args below meth c ls Q X hret hT hl hS
  have hx := X.1
  have hb := X.2.1
  have hl : lv_has ls 2 [(0, .ref (h 96)), (1, .int a_a)] := hl
  refine lv_aload_n hx hb dX9_by_0 rfl (lv_at hl 0 rfl) ?_
  refine lv_iconst (v := 0) hx hb dX9_by_1 (by decide) ?_
  refine r_puti X hT hS 96 0 pk_9_83 rfl rfl rfl rfl (by decide) dX9_by_2 (fun H locs i1 ei1 hT hS => ?_)
  have hR1 := Rg_put hR ei1 0 0 rfl (rg_k (by decide) : rg 0 0 0) (by decide)
  refine lv_aload_n hx hb dX9_by_5 rfl (lv_at hl 0 rfl) ?_
  refine r_Vi (As := []) (rest := []) X hT hS (k_X9_isTale hR1) mk_X9_isTale gm_1685 rfl rfl (by decide) hd_X9_isTale ⟨rfl, rfl⟩ ⟨Nat.le_of_ble_eq_true rfl, Nat.le_of_ble_eq_true rfl⟩ hl.1 rfl (Nat.le_of_ble_eq_true rfl) dX9_by_6 ⟨Nat.zero_le _, Nat.zero_le _⟩ (fun r2 i2 g2 H locs hq hT hS => ?_)
  obtain ⟨eh2, rfl⟩ := hq
  rw [(Prod.mk.inj eh2).1, (Prod.mk.inj eh2).2] at hT
  refine lv_if_eq (tgt := 32) hx hb dX9_by_9 (by decide) (fun c3 => ?_) (fun c3 => (x_ne (rg_k (by decide) : rg 0 0 0) (rg_k (by decide) : rg 0 0 0) (i_ne c3) (by decide)).elim)
  refine lv_bipush (v := (-2)) hx hb dX9_by_32 (by decide) ?_
  exact hret (-2) _ _ _ _ _ _ dX9_by_34 hT hS ⟨hR1, rfl⟩

set_option maxRecDepth 100000 in
set_option maxHeartbeats 4000000 in
theorem k_X9_law {l : Launch} {D : va_G} {h : Nat → Nat} {cz : Nat → ClassId} {i : Nat → Nat → Int32} {g : Nat → Nat → Int64} (hR : Rg rM i)  : CtI l yX9_law cX9_law 3 (some .int) ({ frames := 1, cells := 0, slots := 0, locals := 20 } : Room) D h cz i g [.ref (h 96)] (fun r u => Rg rM u.1 ∧ r = (-2)) := by
  refine k_I pn_X9_law (Nat.le_of_ble_eq_true rfl) ?_
  intro p e s m args below meth c ls Q X hret hT hl hS
  have hx := X.1
  have hb := X.2.1
  have hl : lv_has ls 3 [(0, .ref (h 96))] := hl
  refine lv_aload_n hx hb dX9_law_0 rfl (lv_at hl 0 rfl) ?_
  refine lv_iconst (v := 0) hx hb dX9_law_1 (by decide) ?_
  refine r_puti X hT hS 96 0 pk_9_83 rfl rfl rfl rfl (by decide) dX9_law_2 (fun H locs i1 ei1 hT hS => ?_)
  have hR1 := Rg_put hR ei1 0 0 rfl (rg_k (by decide) : rg 0 0 0) (by decide)
  refine lv_aload_n hx hb dX9_law_5 rfl (lv_at hl 0 rfl) ?_
  refine r_Vi (As := []) (rest := []) X hT hS (k_X9_isTale hR1) mk_X9_isTale gm_1685 rfl rfl (by decide) hd_X9_isTale ⟨rfl, rfl⟩ ⟨Nat.le_of_ble_eq_true rfl, Nat.le_of_ble_eq_true rfl⟩ hl.1 rfl (Nat.le_of_ble_eq_true rfl) dX9_law_6 ⟨Nat.zero_le _, Nat.zero_le _⟩ (fun r2 i2 g2 H locs hq hT hS => ?_)
  obtain ⟨eh2, rfl⟩ := hq
  rw [(Prod.mk.inj eh2).1, (Prod.mk.inj eh2).2] at hT
  refine lv_if_ne (tgt := 15) hx hb dX9_law_9 (by decide) (fun c3 => (x_ne (rg_k (by decide) : rg 0 0 0) (rg_k (by decide) : rg 0 0 0) (i_ne c3) (by decide)).elim) (fun c3 => ?_)
  refine lv_bipush (v := (-2)) hx hb dX9_law_12 (by decide) ?_
  exact hret (-2) _ _ _ _ _ _ dX9_law_14 hT hS ⟨hR1, rfl⟩

set_option maxRecDepth 100000 in
set_option maxHeartbeats 4000000 in
theorem k_X9_blunt {l : Launch} {D : va_G} {h : Nat → Nat} {cz : Nat → ClassId} {i : Nat → Nat → Int32} {g : Nat → Nat → Int64} (hR : Rg rM i)  : CtI l yX9_blunt cX9_blunt 4 (some .int) ({ frames := 1, cells := 0, slots := 0, locals := 20 } : Room) D h cz i g [.ref (h 96)] (fun r u => Rg rM u.1 ∧ r = (-2)) := by
  refine k_I pn_X9_blunt (Nat.le_of_ble_eq_true rfl) ?_
  intro p e s m args below meth c ls Q X hret hT hl hS
  have hx := X.1
  have hb := X.2.1
  have hl : lv_has ls 4 [(0, .ref (h 96))] := hl
  refine lv_aload_n hx hb dX9_blunt_0 rfl (lv_at hl 0 rfl) ?_
  refine lv_iconst (v := 0) hx hb dX9_blunt_1 (by decide) ?_
  refine r_puti X hT hS 96 0 pk_9_83 rfl rfl rfl rfl (by decide) dX9_blunt_2 (fun H locs i1 ei1 hT hS => ?_)
  have hR1 := Rg_put hR ei1 0 0 rfl (rg_k (by decide) : rg 0 0 0) (by decide)
  refine lv_aload_n hx hb dX9_blunt_5 rfl (lv_at hl 0 rfl) ?_
  refine r_Vi (As := []) (rest := []) X hT hS (k_X9_isTale hR1) mk_X9_isTale gm_1685 rfl rfl (by decide) hd_X9_isTale ⟨rfl, rfl⟩ ⟨Nat.le_of_ble_eq_true rfl, Nat.le_of_ble_eq_true rfl⟩ hl.1 rfl (Nat.le_of_ble_eq_true rfl) dX9_blunt_6 ⟨Nat.zero_le _, Nat.zero_le _⟩ (fun r2 i2 g2 H locs hq hT hS => ?_)
  obtain ⟨eh2, rfl⟩ := hq
  rw [(Prod.mk.inj eh2).1, (Prod.mk.inj eh2).2] at hT
  refine lv_if_ne (tgt := 15) hx hb dX9_blunt_9 (by decide) (fun c3 => (x_ne (rg_k (by decide) : rg 0 0 0) (rg_k (by decide) : rg 0 0 0) (i_ne c3) (by decide)).elim) (fun c3 => ?_)
  refine lv_bipush (v := (-2)) hx hb dX9_blunt_12 (by decide) ?_
  exact hret (-2) _ _ _ _ _ _ dX9_blunt_14 hT hS ⟨hR1, rfl⟩

set_option maxRecDepth 100000 in
set_option maxHeartbeats 4000000 in
theorem k_X9_slit {l : Launch} {D : va_G} {h : Nat → Nat} {cz : Nat → ClassId} {i : Nat → Nat → Int32} {g : Nat → Nat → Int64} (hR : Rg rM i)  : CtI l yX9_slit cX9_slit 4 (some .int) ({ frames := 1, cells := 0, slots := 0, locals := 20 } : Room) D h cz i g [.ref (h 96)] (fun r u => Rg rM u.1 ∧ r = (-2)) := by
  refine k_I pn_X9_slit (Nat.le_of_ble_eq_true rfl) ?_
  intro p e s m args below meth c ls Q X hret hT hl hS
  have hx := X.1
  have hb := X.2.1
  have hl : lv_has ls 4 [(0, .ref (h 96))] := hl
  refine lv_aload_n hx hb dX9_slit_0 rfl (lv_at hl 0 rfl) ?_
  refine lv_iconst (v := 0) hx hb dX9_slit_1 (by decide) ?_
  refine r_puti X hT hS 96 0 pk_9_83 rfl rfl rfl rfl (by decide) dX9_slit_2 (fun H locs i1 ei1 hT hS => ?_)
  have hR1 := Rg_put hR ei1 0 0 rfl (rg_k (by decide) : rg 0 0 0) (by decide)
  refine lv_aload_n hx hb dX9_slit_5 rfl (lv_at hl 0 rfl) ?_
  refine r_Vi (As := []) (rest := []) X hT hS (k_X9_isTale hR1) mk_X9_isTale gm_1685 rfl rfl (by decide) hd_X9_isTale ⟨rfl, rfl⟩ ⟨Nat.le_of_ble_eq_true rfl, Nat.le_of_ble_eq_true rfl⟩ hl.1 rfl (Nat.le_of_ble_eq_true rfl) dX9_slit_6 ⟨Nat.zero_le _, Nat.zero_le _⟩ (fun r2 i2 g2 H locs hq hT hS => ?_)
  obtain ⟨eh2, rfl⟩ := hq
  rw [(Prod.mk.inj eh2).1, (Prod.mk.inj eh2).2] at hT
  refine lv_if_ne (tgt := 15) hx hb dX9_slit_9 (by decide) (fun c3 => (x_ne (rg_k (by decide) : rg 0 0 0) (rg_k (by decide) : rg 0 0 0) (i_ne c3) (by decide)).elim) (fun c3 => ?_)
  refine lv_bipush (v := (-2)) hx hb dX9_slit_12 (by decide) ?_
  exact hret (-2) _ _ _ _ _ _ dX9_slit_14 hT hS ⟨hR1, rfl⟩

set_option maxRecDepth 100000 in
set_option maxHeartbeats 4000000 in
theorem k_X9_laysUncle {l : Launch} {D : va_G} {h : Nat → Nat} {cz : Nat → ClassId} {i : Nat → Nat → Int32} {g : Nat → Nat → Int64} (hR : Rg rM i)  : CtV l yX9_laysUncle cX9_laysUncle 2 none ({ frames := 1, cells := 0, slots := 0, locals := 20 } : Room) D h cz i g [.ref (h 96)] (fun u => Rg rM u.1 ∧ u.1 96 50 = (-1000)) := by
  refine k_V pn_X9_laysUncle (Nat.le_of_ble_eq_true rfl) ?_
  intro p e s m args below meth c ls Q X hret hT hl hS
  have hx := X.1
  have hb := X.2.1
  have hl : lv_has ls 2 [(0, .ref (h 96))] := hl
  refine lv_aload_n hx hb dX9_laysUncle_0 rfl (lv_at hl 0 rfl) ?_
  refine lv_iconst (v := (-1)) hx hb dX9_laysUncle_1 (by decide) ?_
  refine r_puti X hT hS 96 49 pk_9_426 rfl rfl rfl rfl (by decide) dX9_laysUncle_2 (fun H locs i1 ei1 hT hS => ?_)
  have z1_96_50 : i1 96 50 = (i 96 50) := z_k ei1 rfl (by decide)
  have hR1 := Rg_put hR ei1 (-1) 0 rfl (rg_k (by decide) : rg (-1) (-1) (-1)) (by decide)
  refine lv_aload_n hx hb dX9_laysUncle_5 rfl (lv_at hl 0 rfl) ?_
  refine lv_sipush (v := (-1000)) hx hb dX9_laysUncle_6 (by decide) ?_
  refine r_puti X hT hS 96 50 pk_9_429 rfl rfl rfl rfl (by decide) dX9_laysUncle_9 (fun H locs i2 ei2 hT hS => ?_)
  have z2_96_50 : i2 96 50 = (-1000) := z_s ei2
  have hR2 := Rg_put hR1 ei2 (-1000) 0 rfl (rg_k (by decide) : rg (-1000) (-1000) (-1000)) (by decide)
  refine lv_iconst (v := 0) hx hb dX9_laysUncle_12 (by decide) ?_
  refine lv_istore_n (lv' := [(1, .int 0), (0, .ref (h 96))]) hx hb dX9_laysUncle_13 rfl hl (by decide) rfl (fun ls hl => ?_)
  refine lv_iload_n hx hb dX9_laysUncle_14 rfl (lv_at hl 0 rfl) ?_
  refine lv_aload_n hx hb dX9_laysUncle_15 rfl (lv_at hl 1 rfl) ?_
  refine r_Vi (As := []) (rest := [.int 0]) X hT hS (k_X9_parts hR2) mk_X9_parts gm_1649 rfl rfl (by decide) hd_X9_parts ⟨rfl, rfl⟩ ⟨Nat.le_of_ble_eq_true rfl, Nat.le_of_ble_eq_true rfl⟩ hl.1 rfl (Nat.le_of_ble_eq_true rfl) dX9_laysUncle_16 ⟨Nat.zero_le _, Nat.zero_le _⟩ (fun r3 i3 g3 H locs hq hT hS => ?_)
  obtain ⟨eh3, rfl⟩ := hq
  rw [(Prod.mk.inj eh3).1, (Prod.mk.inj eh3).2] at hT
  refine lv_icmp_ge (tgt := 68) hx hb dX9_laysUncle_19 (by decide) (fun c4 => ?_) (fun c4 => (x_lt (rg_k (by decide) : rg 0 0 0) (rg_k (by decide) : rg 0 0 0) (i_nle c4) (by decide)).elim)
  exact hret _ _ _ _ _ _ dX9_laysUncle_68 hT hS ⟨hR2, z2_96_50⟩

set_option maxRecDepth 100000 in
set_option maxHeartbeats 4000000 in
theorem k_X9_uncle {l : Launch} {D : va_G} {h : Nat → Nat} {cz : Nat → ClassId} {i : Nat → Nat → Int32} {g : Nat → Nat → Int64} (hR : Rg rM i)  : CtI l yX9_uncle cX9_uncle 1 (some .int) ({ frames := 2, cells := 0, slots := 0, locals := 41 } : Room) D h cz i g [.ref (h 96)] (fun r u => Rg rM u.1 ∧ r = (-1000)) := by
  refine k_I pn_X9_uncle (Nat.le_of_ble_eq_true rfl) ?_
  intro p e s m args below meth c ls Q X hret hT hl hS
  have hx := X.1
  have hb := X.2.1
  have hl : lv_has ls 1 [(0, .ref (h 96))] := hl
  refine lv_aload_n hx hb dX9_uncle_0 rfl (lv_at hl 0 rfl) ?_
  refine lv_iconst (v := 0) hx hb dX9_uncle_1 (by decide) ?_
  refine r_puti X hT hS 96 0 pk_9_83 rfl rfl rfl rfl (by decide) dX9_uncle_2 (fun H locs i1 ei1 hT hS => ?_)
  have hR1 := Rg_put hR ei1 0 0 rfl (rg_k (by decide) : rg 0 0 0) (by decide)
  refine lv_aload_n hx hb dX9_uncle_5 rfl (lv_at hl 0 rfl) ?_
  refine r_Vv (As := []) (rest := []) X hT hS (k_X9_laysUncle hR1) mk_X9_laysUncle gm_2004 rfl rfl (by decide) hd_X9_laysUncle ⟨rfl, rfl⟩ ⟨Nat.le_of_ble_eq_true rfl, Nat.le_of_ble_eq_true rfl⟩ hl.1 rfl (Nat.le_of_ble_eq_true rfl) dX9_uncle_6 ⟨Nat.zero_le _, Nat.zero_le _⟩ (fun i2 g2 H locs hq hT hS => ?_)
  obtain ⟨hR2, hf2_0⟩ := hq
  replace hf2_0 : i2 96 50 = (-1000) := hf2_0
  refine lv_aload_n hx hb dX9_uncle_9 rfl (lv_at hl 0 rfl) ?_
  refine r_geti X hT 96 50 fk_9_429 rfl rfl (by decide) dX9_uncle_10 ?_
  rw [hf2_0]
  exact hret (-1000) _ _ _ _ _ _ dX9_uncle_13 hT hS ⟨hR2, rfl⟩

set_option maxRecDepth 100000 in
set_option maxHeartbeats 4000000 in
theorem k_X9_opens {l : Launch} {D : va_G} {h : Nat → Nat} {cz : Nat → ClassId} {i : Nat → Nat → Int32} {g : Nat → Nat → Int64} (hR : Rg rM i)  : CtI l yX9_opens cX9_opens 1 (some .int) ({ frames := 1, cells := 0, slots := 0, locals := 20 } : Room) D h cz i g [.ref (h 96)] (fun r u => Rg rM u.1 ∧ r = (-2)) := by
  refine k_I pn_X9_opens (Nat.le_of_ble_eq_true rfl) ?_
  intro p e s m args below meth c ls Q X hret hT hl hS
  have hx := X.1
  have hb := X.2.1
  have hl : lv_has ls 1 [(0, .ref (h 96))] := hl
  refine lv_aload_n hx hb dX9_opens_0 rfl (lv_at hl 0 rfl) ?_
  refine lv_iconst (v := 0) hx hb dX9_opens_1 (by decide) ?_
  refine r_puti X hT hS 96 0 pk_9_83 rfl rfl rfl rfl (by decide) dX9_opens_2 (fun H locs i1 ei1 hT hS => ?_)
  have hR1 := Rg_put hR ei1 0 0 rfl (rg_k (by decide) : rg 0 0 0) (by decide)
  refine lv_aload_n hx hb dX9_opens_5 rfl (lv_at hl 0 rfl) ?_
  refine r_Vi (As := []) (rest := []) X hT hS (k_X9_isTale hR1) mk_X9_isTale gm_1685 rfl rfl (by decide) hd_X9_isTale ⟨rfl, rfl⟩ ⟨Nat.le_of_ble_eq_true rfl, Nat.le_of_ble_eq_true rfl⟩ hl.1 rfl (Nat.le_of_ble_eq_true rfl) dX9_opens_6 ⟨Nat.zero_le _, Nat.zero_le _⟩ (fun r2 i2 g2 H locs hq hT hS => ?_)
  obtain ⟨eh2, rfl⟩ := hq
  rw [(Prod.mk.inj eh2).1, (Prod.mk.inj eh2).2] at hT
  refine lv_if_ne (tgt := 15) hx hb dX9_opens_9 (by decide) (fun c3 => (x_ne (rg_k (by decide) : rg 0 0 0) (rg_k (by decide) : rg 0 0 0) (i_ne c3) (by decide)).elim) (fun c3 => ?_)
  refine lv_bipush (v := (-2)) hx hb dX9_opens_12 (by decide) ?_
  exact hret (-2) _ _ _ _ _ _ dX9_opens_14 hT hS ⟨hR1, rfl⟩

set_option maxRecDepth 100000 in
set_option maxHeartbeats 4000000 in
theorem k_X9_replies {l : Launch} {D : va_G} {h : Nat → Nat} {cz : Nat → ClassId} {i : Nat → Nat → Int32} {g : Nat → Nat → Int64} (hR : Rg rM i) (a_a : Int32) : CtI l yX9_replies cX9_replies 2 (some .int) ({ frames := 2, cells := 0, slots := 0, locals := 47 } : Room) D h cz i g [.ref (h 96), .int a_a] (fun r u => Rg rM u.1 ∧ r = (-2)) := by
  refine k_I pn_X9_replies (Nat.le_of_ble_eq_true rfl) ?_
  intro p e s m args below meth c ls Q X hret hT hl hS
  have hx := X.1
  have hb := X.2.1
  have hl : lv_has ls 2 [(0, .ref (h 96)), (1, .int a_a)] := hl
  refine lv_aload_n hx hb dX9_replies_0 rfl (lv_at hl 0 rfl) ?_
  refine lv_iconst (v := 0) hx hb dX9_replies_1 (by decide) ?_
  refine r_puti X hT hS 96 0 pk_9_83 rfl rfl rfl rfl (by decide) dX9_replies_2 (fun H locs i1 ei1 hT hS => ?_)
  have hR1 := Rg_put hR ei1 0 0 rfl (rg_k (by decide) : rg 0 0 0) (by decide)
  refine lv_aload_n hx hb dX9_replies_5 rfl (lv_at hl 0 rfl) ?_
  refine lv_iload_n hx hb dX9_replies_6 rfl (lv_at hl 1 rfl) ?_
  refine q_i2l hx hb dX9_replies_7 (fun y2 ey2 => ?_)
  obtain ⟨hy2, ay2⟩ := rg_i2l ey2 (rg_top a_a)
  refine r_Vi (As := [.long y2]) (rest := []) X hT hS (k_X9_isPart hR1 y2) mk_X9_isPart gm_1645 rfl rfl (by decide) hd_X9_isPart ⟨rfl, rfl⟩ ⟨Nat.le_of_ble_eq_true rfl, Nat.le_of_ble_eq_true rfl⟩ hl.1 rfl (Nat.le_of_ble_eq_true rfl) dX9_replies_8 ⟨Nat.zero_le _, Nat.zero_le _⟩ (fun r3 i3 g3 H locs hq hT hS => ?_)
  obtain ⟨eh3, rfl⟩ := hq
  rw [(Prod.mk.inj eh3).1, (Prod.mk.inj eh3).2] at hT
  refine lv_if_ne (tgt := 17) hx hb dX9_replies_11 (by decide) (fun c4 => (x_ne (rg_k (by decide) : rg 0 0 0) (rg_k (by decide) : rg 0 0 0) (i_ne c4) (by decide)).elim) (fun c4 => ?_)
  refine lv_bipush (v := (-2)) hx hb dX9_replies_14 (by decide) ?_
  exact hret (-2) _ _ _ _ _ _ dX9_replies_16 hT hS ⟨hR1, rfl⟩

set_option maxRecDepth 100000 in
set_option maxHeartbeats 4000000 in
theorem k_X9_areTwo {l : Launch} {D : va_G} {h : Nat → Nat} {cz : Nat → ClassId} {i : Nat → Nat → Int32} {g : Nat → Nat → Int64} (hR : Rg rM i) (a_a : Int32) (a_b : Int32) : CtI l yX9_areTwo cX9_areTwo 3 (some .boolean) ({ frames := 2, cells := 0, slots := 0, locals := 47 } : Room) D h cz i g [.ref (h 96), .int a_a, .int a_b] (fun r u => u = (i, g) ∧ r = 0) := by
  refine k_Z (by intro v u hq; obtain ⟨-, hq⟩ := hq; exact Or.inl hq) pn_X9_areTwo (Nat.le_of_ble_eq_true rfl) ?_
  intro p e s m args below meth c ls Q X hret hT hl hS
  have hx := X.1
  have hb := X.2.1
  have hl : lv_has ls 3 [(0, .ref (h 96)), (1, .int a_a), (2, .int a_b)] := hl
  refine lv_aload_n hx hb dX9_areTwo_0 rfl (lv_at hl 0 rfl) ?_
  refine lv_iload_n hx hb dX9_areTwo_1 rfl (lv_at hl 1 rfl) ?_
  refine q_i2l hx hb dX9_areTwo_2 (fun y1 ey1 => ?_)
  obtain ⟨hy1, ay1⟩ := rg_i2l ey1 (rg_top a_a)
  refine r_Vi (As := [.long y1]) (rest := []) X hT hS (k_X9_isPart hR y1) mk_X9_isPart gm_1645 rfl rfl (by decide) hd_X9_isPart ⟨rfl, rfl⟩ ⟨Nat.le_of_ble_eq_true rfl, Nat.le_of_ble_eq_true rfl⟩ hl.1 rfl (Nat.le_of_ble_eq_true rfl) dX9_areTwo_3 ⟨Nat.zero_le _, Nat.zero_le _⟩ (fun r2 i2 g2 H locs hq hT hS => ?_)
  obtain ⟨eh2, rfl⟩ := hq
  rw [(Prod.mk.inj eh2).1, (Prod.mk.inj eh2).2] at hT
  refine lv_if_eq (tgt := 27) hx hb dX9_areTwo_6 (by decide) (fun c3 => ?_) (fun c3 => (x_ne (rg_k (by decide) : rg 0 0 0) (rg_k (by decide) : rg 0 0 0) (i_ne c3) (by decide)).elim)
  refine lv_iconst (v := 0) hx hb dX9_areTwo_27 (by decide) ?_
  exact hret 0 _ _ _ _ _ _ dX9_areTwo_28 hT hS ⟨rfl, rfl⟩

set_option maxRecDepth 100000 in
set_option maxHeartbeats 4000000 in
theorem k_X9_rests {l : Launch} {D : va_G} {h : Nat → Nat} {cz : Nat → ClassId} {i : Nat → Nat → Int32} {g : Nat → Nat → Int64} (hR : Rg rM i) (a_a : Int32) (a_b : Int32) : CtI l yX9_rests cX9_rests 8 (some .int) ({ frames := 3, cells := 0, slots := 0, locals := 69 } : Room) D h cz i g [.ref (h 96), .int a_a, .int a_b] (fun r u => Rg rM u.1 ∧ r = (-2)) := by
  refine k_I pn_X9_rests (Nat.le_of_ble_eq_true rfl) ?_
  intro p e s m args below meth c ls Q X hret hT hl hS
  have hx := X.1
  have hb := X.2.1
  have hl : lv_has ls 8 [(0, .ref (h 96)), (1, .int a_a), (2, .int a_b)] := hl
  refine lv_aload_n hx hb dX9_rests_0 rfl (lv_at hl 0 rfl) ?_
  refine lv_iconst (v := 0) hx hb dX9_rests_1 (by decide) ?_
  refine r_puti X hT hS 96 0 pk_9_83 rfl rfl rfl rfl (by decide) dX9_rests_2 (fun H locs i1 ei1 hT hS => ?_)
  have hR1 := Rg_put hR ei1 0 0 rfl (rg_k (by decide) : rg 0 0 0) (by decide)
  refine lv_aload_n hx hb dX9_rests_5 rfl (lv_at hl 0 rfl) ?_
  refine lv_iload_n hx hb dX9_rests_6 rfl (lv_at hl 1 rfl) ?_
  refine lv_iload_n hx hb dX9_rests_7 rfl (lv_at hl 2 rfl) ?_
  refine r_Vi (As := [.int a_a, .int a_b]) (rest := []) X hT hS (k_X9_areTwo hR1 a_a a_b) mk_X9_areTwo gm_2024 rfl rfl (by decide) hd_X9_areTwo ⟨rfl, rfl⟩ ⟨Nat.le_of_ble_eq_true rfl, Nat.le_of_ble_eq_true rfl⟩ hl.1 rfl (Nat.le_of_ble_eq_true rfl) dX9_rests_8 ⟨Nat.zero_le _, Nat.zero_le _⟩ (fun r2 i2 g2 H locs hq hT hS => ?_)
  obtain ⟨eh2, rfl⟩ := hq
  rw [(Prod.mk.inj eh2).1, (Prod.mk.inj eh2).2] at hT
  refine lv_if_ne (tgt := 17) hx hb dX9_rests_11 (by decide) (fun c3 => (x_ne (rg_k (by decide) : rg 0 0 0) (rg_k (by decide) : rg 0 0 0) (i_ne c3) (by decide)).elim) (fun c3 => ?_)
  refine lv_bipush (v := (-2)) hx hb dX9_rests_14 (by decide) ?_
  exact hret (-2) _ _ _ _ _ _ dX9_rests_16 hT hS ⟨hR1, rfl⟩

set_option maxRecDepth 100000 in
set_option maxHeartbeats 4000000 in
theorem k_X9_gets {l : Launch} {D : va_G} {h : Nat → Nat} {cz : Nat → ClassId} {i : Nat → Nat → Int32} {g : Nat → Nat → Int64} (hR : Rg rM i) (a_a : Int32) (a_b : Int32) (a_c : Int32) (a_d : Int32) : CtI l yX9_gets cX9_gets 5 (some .int) ({ frames := 3, cells := 0, slots := 0, locals := 69 } : Room) D h cz i g [.ref (h 96), .int a_a, .int a_b, .int a_c, .int a_d] (fun r u => Rg rM u.1 ∧ r = (-1000)) := by
  refine k_I pn_X9_gets (Nat.le_of_ble_eq_true rfl) ?_
  intro p e s m args below meth c ls Q X hret hT hl hS
  have hx := X.1
  have hb := X.2.1
  have hl : lv_has ls 5 [(0, .ref (h 96)), (1, .int a_a), (2, .int a_b), (3, .int a_c), (4, .int a_d)] := hl
  refine lv_aload_n hx hb dX9_gets_0 rfl (lv_at hl 0 rfl) ?_
  refine lv_iconst (v := 0) hx hb dX9_gets_1 (by decide) ?_
  refine r_puti X hT hS 96 0 pk_9_83 rfl rfl rfl rfl (by decide) dX9_gets_2 (fun H locs i1 ei1 hT hS => ?_)
  have hR1 := Rg_put hR ei1 0 0 rfl (rg_k (by decide) : rg 0 0 0) (by decide)
  refine lv_aload_n hx hb dX9_gets_5 rfl (lv_at hl 0 rfl) ?_
  refine lv_iload_n hx hb dX9_gets_6 rfl (lv_at hl 1 rfl) ?_
  refine lv_iload_n hx hb dX9_gets_7 rfl (lv_at hl 2 rfl) ?_
  refine r_Vi (As := [.int a_a, .int a_b]) (rest := []) X hT hS (k_X9_areTwo hR1 a_a a_b) mk_X9_areTwo gm_2024 rfl rfl (by decide) hd_X9_areTwo ⟨rfl, rfl⟩ ⟨Nat.le_of_ble_eq_true rfl, Nat.le_of_ble_eq_true rfl⟩ hl.1 rfl (Nat.le_of_ble_eq_true rfl) dX9_gets_8 ⟨Nat.zero_le _, Nat.zero_le _⟩ (fun r2 i2 g2 H locs hq hT hS => ?_)
  obtain ⟨eh2, rfl⟩ := hq
  rw [(Prod.mk.inj eh2).1, (Prod.mk.inj eh2).2] at hT
  refine lv_if_eq (tgt := 42) hx hb dX9_gets_11 (by decide) (fun c3 => ?_) (fun c3 => (x_ne (rg_k (by decide) : rg 0 0 0) (rg_k (by decide) : rg 0 0 0) (i_ne c3) (by decide)).elim)
  refine lv_sipush (v := (-1000)) hx hb dX9_gets_42 (by decide) ?_
  exact hret (-1000) _ _ _ _ _ _ dX9_gets_45 hT hS ⟨hR1, rfl⟩

set_option maxRecDepth 100000 in
set_option maxHeartbeats 4000000 in
theorem k_X9_chance {l : Launch} {D : va_G} {h : Nat → Nat} {cz : Nat → ClassId} {i : Nat → Nat → Int32} {g : Nat → Nat → Int64} (hR : Rg rM i) (a_a : Int32) (a_b : Int32) : CtI l yX9_chance cX9_chance 3 (some .int) ({ frames := 2, cells := 0, slots := 0, locals := 47 } : Room) D h cz i g [.ref (h 96), .int a_a, .int a_b] (fun r u => Rg rM u.1 ∧ r = (-2)) := by
  refine k_I pn_X9_chance (Nat.le_of_ble_eq_true rfl) ?_
  intro p e s m args below meth c ls Q X hret hT hl hS
  have hx := X.1
  have hb := X.2.1
  have hl : lv_has ls 3 [(0, .ref (h 96)), (1, .int a_a), (2, .int a_b)] := hl
  refine lv_aload_n hx hb dX9_chance_0 rfl (lv_at hl 0 rfl) ?_
  refine lv_iconst (v := 0) hx hb dX9_chance_1 (by decide) ?_
  refine r_puti X hT hS 96 0 pk_9_83 rfl rfl rfl rfl (by decide) dX9_chance_2 (fun H locs i1 ei1 hT hS => ?_)
  have hR1 := Rg_put hR ei1 0 0 rfl (rg_k (by decide) : rg 0 0 0) (by decide)
  refine lv_aload_n hx hb dX9_chance_5 rfl (lv_at hl 0 rfl) ?_
  refine lv_iload_n hx hb dX9_chance_6 rfl (lv_at hl 1 rfl) ?_
  refine q_i2l hx hb dX9_chance_7 (fun y2 ey2 => ?_)
  obtain ⟨hy2, ay2⟩ := rg_i2l ey2 (rg_top a_a)
  refine r_Vi (As := [.long y2]) (rest := []) X hT hS (k_X9_isPart hR1 y2) mk_X9_isPart gm_1645 rfl rfl (by decide) hd_X9_isPart ⟨rfl, rfl⟩ ⟨Nat.le_of_ble_eq_true rfl, Nat.le_of_ble_eq_true rfl⟩ hl.1 rfl (Nat.le_of_ble_eq_true rfl) dX9_chance_8 ⟨Nat.zero_le _, Nat.zero_le _⟩ (fun r3 i3 g3 H locs hq hT hS => ?_)
  obtain ⟨eh3, rfl⟩ := hq
  rw [(Prod.mk.inj eh3).1, (Prod.mk.inj eh3).2] at hT
  refine lv_if_eq (tgt := 46) hx hb dX9_chance_11 (by decide) (fun c4 => ?_) (fun c4 => (x_ne (rg_k (by decide) : rg 0 0 0) (rg_k (by decide) : rg 0 0 0) (i_ne c4) (by decide)).elim)
  refine lv_bipush (v := (-2)) hx hb dX9_chance_46 (by decide) ?_
  exact hret (-2) _ _ _ _ _ _ dX9_chance_48 hT hS ⟨hR1, rfl⟩

set_option maxRecDepth 100000 in
set_option maxHeartbeats 4000000 in
theorem k_X9_mean {l : Launch} {D : va_G} {h : Nat → Nat} {cz : Nat → ClassId} {i : Nat → Nat → Int32} {g : Nat → Nat → Int64} (hR : Rg rM i) (a_a : Int32) : CtL l yX9_mean cX9_mean 2 (some .long) ({ frames := 1, cells := 0, slots := 0, locals := 20 } : Room) D h cz i g [.ref (h 96), .int a_a] (fun r u => Rg rM u.1 ∧ r = (-2)) := by
  refine k_L pn_X9_mean (Nat.le_of_ble_eq_true rfl) ?_
  intro p e s m args below meth c ls Q X hret hT hl hS
  have hx := X.1
  have hb := X.2.1
  have hl : lv_has ls 2 [(0, .ref (h 96)), (1, .int a_a)] := hl
  refine lv_aload_n hx hb dX9_mean_0 rfl (lv_at hl 0 rfl) ?_
  refine lv_iconst (v := 0) hx hb dX9_mean_1 (by decide) ?_
  refine r_puti X hT hS 96 0 pk_9_83 rfl rfl rfl rfl (by decide) dX9_mean_2 (fun H locs i1 ei1 hT hS => ?_)
  have hR1 := Rg_put hR ei1 0 0 rfl (rg_k (by decide) : rg 0 0 0) (by decide)
  refine lv_aload_n hx hb dX9_mean_5 rfl (lv_at hl 0 rfl) ?_
  refine r_Vi (As := []) (rest := []) X hT hS (k_X9_isTale hR1) mk_X9_isTale gm_1685 rfl rfl (by decide) hd_X9_isTale ⟨rfl, rfl⟩ ⟨Nat.le_of_ble_eq_true rfl, Nat.le_of_ble_eq_true rfl⟩ hl.1 rfl (Nat.le_of_ble_eq_true rfl) dX9_mean_6 ⟨Nat.zero_le _, Nat.zero_le _⟩ (fun r2 i2 g2 H locs hq hT hS => ?_)
  obtain ⟨eh2, rfl⟩ := hq
  rw [(Prod.mk.inj eh2).1, (Prod.mk.inj eh2).2] at hT
  refine lv_if_eq (tgt := 43) hx hb dX9_mean_9 (by decide) (fun c3 => ?_) (fun c3 => (x_ne (rg_k (by decide) : rg 0 0 0) (rg_k (by decide) : rg 0 0 0) (i_ne c3) (by decide)).elim)
  refine lv_ldc2 (v := (-2)) hx hb X.2.2.2.1 (X.2.2.2.2.1 _ gm_2052) dX9_mean_43 ?_
  exact hret (-2) _ _ _ _ _ _ dX9_mean_46 hT hS ⟨hR1, rfl⟩

set_option maxRecDepth 100000 in
set_option maxHeartbeats 4000000 in
theorem k_X9_knife {l : Launch} {D : va_G} {h : Nat → Nat} {cz : Nat → ClassId} {i : Nat → Nat → Int32} {g : Nat → Nat → Int64} (hR : Rg rM i) (a_a : Int32) (a_b : Int32) : CtI l yX9_knife cX9_knife 3 (some .int) ({ frames := 2, cells := 0, slots := 0, locals := 47 } : Room) D h cz i g [.ref (h 96), .int a_a, .int a_b] (fun r u => Rg rM u.1 ∧ r = (-2)) := by
  refine k_I pn_X9_knife (Nat.le_of_ble_eq_true rfl) ?_
  intro p e s m args below meth c ls Q X hret hT hl hS
  have hx := X.1
  have hb := X.2.1
  have hl : lv_has ls 3 [(0, .ref (h 96)), (1, .int a_a), (2, .int a_b)] := hl
  refine lv_aload_n hx hb dX9_knife_0 rfl (lv_at hl 0 rfl) ?_
  refine lv_iconst (v := 0) hx hb dX9_knife_1 (by decide) ?_
  refine r_puti X hT hS 96 0 pk_9_83 rfl rfl rfl rfl (by decide) dX9_knife_2 (fun H locs i1 ei1 hT hS => ?_)
  have hR1 := Rg_put hR ei1 0 0 rfl (rg_k (by decide) : rg 0 0 0) (by decide)
  refine lv_aload_n hx hb dX9_knife_5 rfl (lv_at hl 0 rfl) ?_
  refine lv_iload_n hx hb dX9_knife_6 rfl (lv_at hl 1 rfl) ?_
  refine q_i2l hx hb dX9_knife_7 (fun y2 ey2 => ?_)
  obtain ⟨hy2, ay2⟩ := rg_i2l ey2 (rg_top a_a)
  refine r_Vi (As := [.long y2]) (rest := []) X hT hS (k_X9_isPart hR1 y2) mk_X9_isPart gm_1645 rfl rfl (by decide) hd_X9_isPart ⟨rfl, rfl⟩ ⟨Nat.le_of_ble_eq_true rfl, Nat.le_of_ble_eq_true rfl⟩ hl.1 rfl (Nat.le_of_ble_eq_true rfl) dX9_knife_8 ⟨Nat.zero_le _, Nat.zero_le _⟩ (fun r3 i3 g3 H locs hq hT hS => ?_)
  obtain ⟨eh3, rfl⟩ := hq
  rw [(Prod.mk.inj eh3).1, (Prod.mk.inj eh3).2] at hT
  refine lv_if_eq (tgt := 22) hx hb dX9_knife_11 (by decide) (fun c4 => ?_) (fun c4 => (x_ne (rg_k (by decide) : rg 0 0 0) (rg_k (by decide) : rg 0 0 0) (i_ne c4) (by decide)).elim)
  refine lv_bipush (v := (-2)) hx hb dX9_knife_22 (by decide) ?_
  exact hret (-2) _ _ _ _ _ _ dX9_knife_24 hT hS ⟨hR1, rfl⟩

set_option maxRecDepth 100000 in
set_option maxHeartbeats 4000000 in
theorem k_X9_air {l : Launch} {D : va_G} {h : Nat → Nat} {cz : Nat → ClassId} {i : Nat → Nat → Int32} {g : Nat → Nat → Int64} (hR : Rg rM i) (a_a : Int32) (a_b : Int32) : CtI l yX9_air cX9_air 3 (some .int) ({ frames := 2, cells := 0, slots := 0, locals := 47 } : Room) D h cz i g [.ref (h 96), .int a_a, .int a_b] (fun r u => Rg rM u.1 ∧ r = (-2)) := by
  refine k_I pn_X9_air (Nat.le_of_ble_eq_true rfl) ?_
  intro p e s m args below meth c ls Q X hret hT hl hS
  have hx := X.1
  have hb := X.2.1
  have hl : lv_has ls 3 [(0, .ref (h 96)), (1, .int a_a), (2, .int a_b)] := hl
  refine lv_aload_n hx hb dX9_air_0 rfl (lv_at hl 0 rfl) ?_
  refine lv_iconst (v := 0) hx hb dX9_air_1 (by decide) ?_
  refine r_puti X hT hS 96 0 pk_9_83 rfl rfl rfl rfl (by decide) dX9_air_2 (fun H locs i1 ei1 hT hS => ?_)
  have hR1 := Rg_put hR ei1 0 0 rfl (rg_k (by decide) : rg 0 0 0) (by decide)
  refine lv_aload_n hx hb dX9_air_5 rfl (lv_at hl 0 rfl) ?_
  refine lv_iload_n hx hb dX9_air_6 rfl (lv_at hl 1 rfl) ?_
  refine q_i2l hx hb dX9_air_7 (fun y2 ey2 => ?_)
  obtain ⟨hy2, ay2⟩ := rg_i2l ey2 (rg_top a_a)
  refine r_Vi (As := [.long y2]) (rest := []) X hT hS (k_X9_isPart hR1 y2) mk_X9_isPart gm_1645 rfl rfl (by decide) hd_X9_isPart ⟨rfl, rfl⟩ ⟨Nat.le_of_ble_eq_true rfl, Nat.le_of_ble_eq_true rfl⟩ hl.1 rfl (Nat.le_of_ble_eq_true rfl) dX9_air_8 ⟨Nat.zero_le _, Nat.zero_le _⟩ (fun r3 i3 g3 H locs hq hT hS => ?_)
  obtain ⟨eh3, rfl⟩ := hq
  rw [(Prod.mk.inj eh3).1, (Prod.mk.inj eh3).2] at hT
  refine lv_if_eq (tgt := 22) hx hb dX9_air_11 (by decide) (fun c4 => ?_) (fun c4 => (x_ne (rg_k (by decide) : rg 0 0 0) (rg_k (by decide) : rg 0 0 0) (i_ne c4) (by decide)).elim)
  refine lv_bipush (v := (-2)) hx hb dX9_air_22 (by decide) ?_
  exact hret (-2) _ _ _ _ _ _ dX9_air_24 hT hS ⟨hR1, rfl⟩

set_option maxRecDepth 100000 in
set_option maxHeartbeats 4000000 in
theorem k_X9_undo {l : Launch} {D : va_G} {h : Nat → Nat} {cz : Nat → ClassId} {i : Nat → Nat → Int32} {g : Nat → Nat → Int64} (hR : Rg rM i)  : CtI l yX9_undo cX9_undo 1 (some .int) ({ frames := 1, cells := 0, slots := 0, locals := 20 } : Room) D h cz i g [.ref (h 96)] (fun r u => Rg rM u.1 ∧ r = (-2)) := by
  refine k_I pn_X9_undo (Nat.le_of_ble_eq_true rfl) ?_
  intro p e s m args below meth c ls Q X hret hT hl hS
  have hx := X.1
  have hb := X.2.1
  have hl : lv_has ls 1 [(0, .ref (h 96))] := hl
  refine lv_aload_n hx hb dX9_undo_0 rfl (lv_at hl 0 rfl) ?_
  refine lv_iconst (v := 0) hx hb dX9_undo_1 (by decide) ?_
  refine r_puti X hT hS 96 0 pk_9_83 rfl rfl rfl rfl (by decide) dX9_undo_2 (fun H locs i1 ei1 hT hS => ?_)
  have hR1 := Rg_put hR ei1 0 0 rfl (rg_k (by decide) : rg 0 0 0) (by decide)
  refine lv_aload_n hx hb dX9_undo_5 rfl (lv_at hl 0 rfl) ?_
  refine r_Vi (As := []) (rest := []) X hT hS (k_X9_isTale hR1) mk_X9_isTale gm_1685 rfl rfl (by decide) hd_X9_isTale ⟨rfl, rfl⟩ ⟨Nat.le_of_ble_eq_true rfl, Nat.le_of_ble_eq_true rfl⟩ hl.1 rfl (Nat.le_of_ble_eq_true rfl) dX9_undo_6 ⟨Nat.zero_le _, Nat.zero_le _⟩ (fun r2 i2 g2 H locs hq hT hS => ?_)
  obtain ⟨eh2, rfl⟩ := hq
  rw [(Prod.mk.inj eh2).1, (Prod.mk.inj eh2).2] at hT
  refine lv_if_ne (tgt := 15) hx hb dX9_undo_9 (by decide) (fun c3 => (x_ne (rg_k (by decide) : rg 0 0 0) (rg_k (by decide) : rg 0 0 0) (i_ne c3) (by decide)).elim) (fun c3 => ?_)
  refine lv_bipush (v := (-2)) hx hb dX9_undo_12 (by decide) ?_
  exact hret (-2) _ _ _ _ _ _ dX9_undo_14 hT hS ⟨hR1, rfl⟩

set_option maxRecDepth 100000 in
set_option maxHeartbeats 4000000 in
theorem k_X9_anew {l : Launch} {D : va_G} {h : Nat → Nat} {cz : Nat → ClassId} {i : Nat → Nat → Int32} {g : Nat → Nat → Int64} (hR : Rg rM i)  : CtI l yX9_anew cX9_anew 2 (some .int) ({ frames := 1, cells := 0, slots := 0, locals := 20 } : Room) D h cz i g [.ref (h 96)] (fun r u => Rg rM u.1 ∧ r = (-2)) := by
  refine k_I pn_X9_anew (Nat.le_of_ble_eq_true rfl) ?_
  intro p e s m args below meth c ls Q X hret hT hl hS
  have hx := X.1
  have hb := X.2.1
  have hl : lv_has ls 2 [(0, .ref (h 96))] := hl
  refine lv_aload_n hx hb dX9_anew_0 rfl (lv_at hl 0 rfl) ?_
  refine lv_iconst (v := 0) hx hb dX9_anew_1 (by decide) ?_
  refine r_puti X hT hS 96 0 pk_9_83 rfl rfl rfl rfl (by decide) dX9_anew_2 (fun H locs i1 ei1 hT hS => ?_)
  have hR1 := Rg_put hR ei1 0 0 rfl (rg_k (by decide) : rg 0 0 0) (by decide)
  refine lv_aload_n hx hb dX9_anew_5 rfl (lv_at hl 0 rfl) ?_
  refine r_Vi (As := []) (rest := []) X hT hS (k_X9_isTale hR1) mk_X9_isTale gm_1685 rfl rfl (by decide) hd_X9_isTale ⟨rfl, rfl⟩ ⟨Nat.le_of_ble_eq_true rfl, Nat.le_of_ble_eq_true rfl⟩ hl.1 rfl (Nat.le_of_ble_eq_true rfl) dX9_anew_6 ⟨Nat.zero_le _, Nat.zero_le _⟩ (fun r2 i2 g2 H locs hq hT hS => ?_)
  obtain ⟨eh2, rfl⟩ := hq
  rw [(Prod.mk.inj eh2).1, (Prod.mk.inj eh2).2] at hT
  refine lv_if_ne (tgt := 15) hx hb dX9_anew_9 (by decide) (fun c3 => (x_ne (rg_k (by decide) : rg 0 0 0) (rg_k (by decide) : rg 0 0 0) (i_ne c3) (by decide)).elim) (fun c3 => ?_)
  refine lv_bipush (v := (-2)) hx hb dX9_anew_12 (by decide) ?_
  exact hret (-2) _ _ _ _ _ _ dX9_anew_14 hT hS ⟨hR1, rfl⟩

set_option maxRecDepth 100000 in
set_option maxHeartbeats 4000000 in
theorem k_X9_drawn {l : Launch} {D : va_G} {h : Nat → Nat} {cz : Nat → ClassId} {i : Nat → Nat → Int32} {g : Nat → Nat → Int64} (hR : Rg rM i) (a_a : Int32) (a_b : Int32) : CtI l yX9_drawn cX9_drawn 4 (some .int) ({ frames := 1, cells := 0, slots := 0, locals := 20 } : Room) D h cz i g [.ref (h 96), .int a_a, .int a_b] (fun r u => Rg rM u.1 ∧ r = (-2)) := by
  refine k_I pn_X9_drawn (Nat.le_of_ble_eq_true rfl) ?_
  intro p e s m args below meth c ls Q X hret hT hl hS
  have hx := X.1
  have hb := X.2.1
  have hl : lv_has ls 4 [(0, .ref (h 96)), (1, .int a_a), (2, .int a_b)] := hl
  refine lv_aload_n hx hb dX9_drawn_0 rfl (lv_at hl 0 rfl) ?_
  refine lv_iconst (v := 0) hx hb dX9_drawn_1 (by decide) ?_
  refine r_puti X hT hS 96 0 pk_9_83 rfl rfl rfl rfl (by decide) dX9_drawn_2 (fun H locs i1 ei1 hT hS => ?_)
  have hR1 := Rg_put hR ei1 0 0 rfl (rg_k (by decide) : rg 0 0 0) (by decide)
  refine lv_aload_n hx hb dX9_drawn_5 rfl (lv_at hl 0 rfl) ?_
  refine r_Vi (As := []) (rest := []) X hT hS (k_X9_isTale hR1) mk_X9_isTale gm_1685 rfl rfl (by decide) hd_X9_isTale ⟨rfl, rfl⟩ ⟨Nat.le_of_ble_eq_true rfl, Nat.le_of_ble_eq_true rfl⟩ hl.1 rfl (Nat.le_of_ble_eq_true rfl) dX9_drawn_6 ⟨Nat.zero_le _, Nat.zero_le _⟩ (fun r2 i2 g2 H locs hq hT hS => ?_)
  obtain ⟨eh2, rfl⟩ := hq
  rw [(Prod.mk.inj eh2).1, (Prod.mk.inj eh2).2] at hT
  refine lv_if_eq (tgt := 26) hx hb dX9_drawn_9 (by decide) (fun c3 => ?_) (fun c3 => (x_ne (rg_k (by decide) : rg 0 0 0) (rg_k (by decide) : rg 0 0 0) (i_ne c3) (by decide)).elim)
  refine lv_bipush (v := (-2)) hx hb dX9_drawn_26 (by decide) ?_
  exact hret (-2) _ _ _ _ _ _ dX9_drawn_28 hT hS ⟨hR1, rfl⟩

set_option maxRecDepth 100000 in
set_option maxHeartbeats 4000000 in
theorem k_M_isSeed {l : Launch} {D : va_G} {h : Nat → Nat} {cz : Nat → ClassId} {i : Nat → Nat → Int32} {g : Nat → Nat → Int64} (a_a : Int32) : CtI l yX9_isSeed cX9_isSeed 1 (some .boolean) ({ frames := 1, cells := 0, slots := 0, locals := 25 } : Room) D h cz i g [.int a_a] (fun r u => (u = (i, g) ∧ r = 1 ∧ rg 0 2000000000 a_a) ∨ (u = (i, g) ∧ r = 0 ∧ (a_a.toInt < 0 ∨ 2000000000 < a_a.toInt))) := by
  refine k_Z (by intro v u hq; rcases hq with ⟨-, hq, -⟩ | ⟨-, hq, -⟩ <;> first | exact Or.inl hq | exact Or.inr hq) pn_X9_isSeed (Nat.le_of_ble_eq_true rfl) ?_
  intro p e s m args below meth c ls Q X hret hT hl hS
  have hx := X.1
  have hb := X.2.1
  have hl : lv_has ls 1 [(0, .int a_a)] := hl
  refine lv_iload_n hx hb dX9_isSeed_0 rfl (lv_at hl 0 rfl) ?_
  refine q_i2l hx hb dX9_isSeed_1 (fun y1 ey1 => ?_)
  obtain ⟨hy1, ay1⟩ := rg_i2l ey1 (rg_top a_a)
  refine lv_lconst (v := 0) hx hb dX9_isSeed_2 (by decide) ?_
  refine lv_ldc2 (v := 2000000000) hx hb X.2.2.2.1 (X.2.2.2.2.1 _ gm_2060) dX9_isSeed_3 ?_
  refine r_Si (As := [.long y1, .long 0, .long 2000000000]) (rest := []) X hT hS (k_in y1 (0) (2000000000)) sk_X9_in gm_1496 hd_X9_in ⟨rfl, rfl⟩ ⟨Nat.le_of_ble_eq_true rfl, Nat.le_of_ble_eq_true rfl⟩ hl.1 rfl (Nat.le_of_ble_eq_true rfl) dX9_isSeed_6 ⟨Nat.zero_le _, Nat.zero_le _⟩ (fun r2 i2 g2 H locs hq hT hS => ?_)
  rcases hq with hq | hq
  ·
    obtain ⟨eh2, rfl, hf2_0⟩ := hq
    rw [(Prod.mk.inj eh2).1, (Prod.mk.inj eh2).2] at hT
    replace hf2_0 : 0 ≤ y1.toInt ∧ y1.toInt ≤ 2000000000 := hf2_0
    have h3 : rgL 0 2000000000 y1 := ⟨by have := hy1.1; have := hy1.2; omega, by have := hy1.1; have := hy1.2; omega⟩
    have h4 : rg 0 2000000000 a_a := ⟨by have := h3.1; omega, by have := h3.2; omega⟩
    exact hret 1 _ _ _ _ _ _ dX9_isSeed_9 hT hS (Or.inl ⟨rfl, rfl, h4⟩)
  ·
    obtain ⟨eh2, rfl, hf2_0⟩ := hq
    rw [(Prod.mk.inj eh2).1, (Prod.mk.inj eh2).2] at hT
    replace hf2_0 : y1.toInt < 0 ∨ 2000000000 < y1.toInt := hf2_0
    exact hret 0 _ _ _ _ _ _ dX9_isSeed_9 hT hS (Or.inr ⟨rfl, rfl, (by omega)⟩)

set_option maxRecDepth 100000 in
set_option maxHeartbeats 4000000 in
theorem k_X9_luck {l : Launch} {D : va_G} {h : Nat → Nat} {cz : Nat → ClassId} {i : Nat → Nat → Int32} {g : Nat → Nat → Int64} (hR : Rg rM i) (a_a : Int32) (a_b : Int32) (a_c : Int32) : CtI l yX9_luck cX9_luck 6 (some .int) ({ frames := 2, cells := 0, slots := 0, locals := 47 } : Room) D h cz i g [.ref (h 96), .int a_a, .int a_b, .int a_c] (fun r u => Rg rM u.1 ∧ r = (-2)) := by
  refine k_I pn_X9_luck (Nat.le_of_ble_eq_true rfl) ?_
  intro p e s m args below meth c ls Q X hret hT hl hS
  have hx := X.1
  have hb := X.2.1
  have hl : lv_has ls 6 [(0, .ref (h 96)), (1, .int a_a), (2, .int a_b), (3, .int a_c)] := hl
  refine lv_aload_n hx hb dX9_luck_0 rfl (lv_at hl 0 rfl) ?_
  refine lv_iconst (v := 0) hx hb dX9_luck_1 (by decide) ?_
  refine r_puti X hT hS 96 0 pk_9_83 rfl rfl rfl rfl (by decide) dX9_luck_2 (fun H locs i1 ei1 hT hS => ?_)
  have hR1 := Rg_put hR ei1 0 0 rfl (rg_k (by decide) : rg 0 0 0) (by decide)
  refine lv_iload_n hx hb dX9_luck_5 rfl (lv_at hl 1 rfl) ?_
  refine r_Si (As := [.int a_a]) (rest := []) X hT hS (k_M_isSeed a_a) sk_X9_isSeed gm_2057 hd_X9_isSeed ⟨rfl, rfl⟩ ⟨Nat.le_of_ble_eq_true rfl, Nat.le_of_ble_eq_true rfl⟩ hl.1 rfl (Nat.le_of_ble_eq_true rfl) dX9_luck_6 ⟨Nat.zero_le _, Nat.zero_le _⟩ (fun r2 i2 g2 H locs hq hT hS => ?_)
  rcases hq with hq | hq
  ·
    obtain ⟨eh2, rfl, hf2_0⟩ := hq
    rw [(Prod.mk.inj eh2).1, (Prod.mk.inj eh2).2] at hT
    have h3 : rg 0 2000000000 a_a := ⟨by have := (rg_top a_a).1; have := hf2_0.1; omega, by have := (rg_top a_a).2; have := hf2_0.2; omega⟩
    refine lv_if_eq (tgt := 33) hx hb dX9_luck_9 (by decide) (fun c4 => (x_eq (rg_k (by decide) : rg 1 1 1) (rg_k (by decide) : rg 0 0 0) (i_eq c4) (by decide)).elim) (fun c4 => ?_)
    refine lv_iload_n hx hb dX9_luck_12 rfl (lv_at hl 2 rfl) ?_
    refine q_i2l hx hb dX9_luck_13 (fun y5 ey5 => ?_)
    obtain ⟨hy5, ay5⟩ := rg_i2l ey5 (rg_top a_b)
    refine lv_lconst (v := 1) hx hb dX9_luck_14 (by decide) ?_
    refine lv_ldc2 (v := 20) hx hb X.2.2.2.1 (X.2.2.2.2.1 _ gm_2073) dX9_luck_15 ?_
    refine r_Si (As := [.long y5, .long 1, .long 20]) (rest := []) X hT hS (k_in y5 (1) (20)) sk_X9_in gm_1496 hd_X9_in ⟨rfl, rfl⟩ ⟨Nat.le_of_ble_eq_true rfl, Nat.le_of_ble_eq_true rfl⟩ hl.1 rfl (Nat.le_of_ble_eq_true rfl) dX9_luck_18 ⟨Nat.zero_le _, Nat.zero_le _⟩ (fun r6 i6 g6 H locs hq hT hS => ?_)
    rcases hq with hq | hq
    ·
      obtain ⟨eh6, rfl, hf6_0⟩ := hq
      rw [(Prod.mk.inj eh6).1, (Prod.mk.inj eh6).2] at hT
      replace hf6_0 : 1 ≤ y5.toInt ∧ y5.toInt ≤ 20 := hf6_0
      have h7 : rgL 1 20 y5 := ⟨by have := hy5.1; have := hy5.2; omega, by have := hy5.1; have := hy5.2; omega⟩
      have h8 : rg 1 20 a_b := ⟨by have := h7.1; omega, by have := h7.2; omega⟩
      refine lv_if_eq (tgt := 33) hx hb dX9_luck_21 (by decide) (fun c9 => (x_eq (rg_k (by decide) : rg 1 1 1) (rg_k (by decide) : rg 0 0 0) (i_eq c9) (by decide)).elim) (fun c9 => ?_)
      refine lv_aload_n hx hb dX9_luck_24 rfl (lv_at hl 0 rfl) ?_
      refine lv_iload_n hx hb dX9_luck_25 rfl (lv_at hl 3 rfl) ?_
      refine q_i2l hx hb dX9_luck_26 (fun y10 ey10 => ?_)
      obtain ⟨hy10, ay10⟩ := rg_i2l ey10 (rg_top a_c)
      refine r_Vi (As := [.long y10]) (rest := []) X hT hS (k_X9_isPart hR1 y10) mk_X9_isPart gm_1645 rfl rfl (by decide) hd_X9_isPart ⟨rfl, rfl⟩ ⟨Nat.le_of_ble_eq_true rfl, Nat.le_of_ble_eq_true rfl⟩ hl.1 rfl (Nat.le_of_ble_eq_true rfl) dX9_luck_27 ⟨Nat.zero_le _, Nat.zero_le _⟩ (fun r11 i11 g11 H locs hq hT hS => ?_)
      obtain ⟨eh11, rfl⟩ := hq
      rw [(Prod.mk.inj eh11).1, (Prod.mk.inj eh11).2] at hT
      refine lv_if_ne (tgt := 36) hx hb dX9_luck_30 (by decide) (fun c12 => (x_ne (rg_k (by decide) : rg 0 0 0) (rg_k (by decide) : rg 0 0 0) (i_ne c12) (by decide)).elim) (fun c12 => ?_)
      refine lv_bipush (v := (-2)) hx hb dX9_luck_33 (by decide) ?_
      exact hret (-2) _ _ _ _ _ _ dX9_luck_35 hT hS ⟨hR1, rfl⟩
    ·
      obtain ⟨eh6, rfl, hf6_0⟩ := hq
      rw [(Prod.mk.inj eh6).1, (Prod.mk.inj eh6).2] at hT
      replace hf6_0 : y5.toInt < 1 ∨ 20 < y5.toInt := hf6_0
      refine lv_if_eq (tgt := 33) hx hb dX9_luck_21 (by decide) (fun c13 => ?_) (fun c13 => (x_ne (rg_k (by decide) : rg 0 0 0) (rg_k (by decide) : rg 0 0 0) (i_ne c13) (by decide)).elim)
      refine lv_bipush (v := (-2)) hx hb dX9_luck_33 (by decide) ?_
      exact hret (-2) _ _ _ _ _ _ dX9_luck_35 hT hS ⟨hR1, rfl⟩
  ·
    obtain ⟨eh2, rfl, hf2_0⟩ := hq
    rw [(Prod.mk.inj eh2).1, (Prod.mk.inj eh2).2] at hT
    refine lv_if_eq (tgt := 33) hx hb dX9_luck_9 (by decide) (fun c14 => ?_) (fun c14 => (x_ne (rg_k (by decide) : rg 0 0 0) (rg_k (by decide) : rg 0 0 0) (i_ne c14) (by decide)).elim)
    refine lv_bipush (v := (-2)) hx hb dX9_luck_33 (by decide) ?_
    exact hret (-2) _ _ _ _ _ _ dX9_luck_35 hT hS ⟨hR1, rfl⟩

set_option maxRecDepth 100000 in
set_option maxHeartbeats 4000000 in
theorem k_X9_rate {l : Launch} {D : va_G} {h : Nat → Nat} {cz : Nat → ClassId} {i : Nat → Nat → Int32} {g : Nat → Nat → Int64} (hR : Rg rM i) (a_a : Int32) (a_b : Int32) : CtI l yX9_rate cX9_rate 4 (some .int) ({ frames := 2, cells := 0, slots := 0, locals := 47 } : Room) D h cz i g [.ref (h 96), .int a_a, .int a_b] (fun r u => Rg rM u.1 ∧ r = (-2)) := by
  refine k_I pn_X9_rate (Nat.le_of_ble_eq_true rfl) ?_
  intro p e s m args below meth c ls Q X hret hT hl hS
  have hx := X.1
  have hb := X.2.1
  have hl : lv_has ls 4 [(0, .ref (h 96)), (1, .int a_a), (2, .int a_b)] := hl
  refine lv_aload_n hx hb dX9_rate_0 rfl (lv_at hl 0 rfl) ?_
  refine lv_iconst (v := 0) hx hb dX9_rate_1 (by decide) ?_
  refine r_puti X hT hS 96 0 pk_9_83 rfl rfl rfl rfl (by decide) dX9_rate_2 (fun H locs i1 ei1 hT hS => ?_)
  have hR1 := Rg_put hR ei1 0 0 rfl (rg_k (by decide) : rg 0 0 0) (by decide)
  refine lv_aload_n hx hb dX9_rate_5 rfl (lv_at hl 0 rfl) ?_
  refine lv_iload_n hx hb dX9_rate_6 rfl (lv_at hl 1 rfl) ?_
  refine q_i2l hx hb dX9_rate_7 (fun y2 ey2 => ?_)
  obtain ⟨hy2, ay2⟩ := rg_i2l ey2 (rg_top a_a)
  refine r_Vi (As := [.long y2]) (rest := []) X hT hS (k_X9_isPart hR1 y2) mk_X9_isPart gm_1645 rfl rfl (by decide) hd_X9_isPart ⟨rfl, rfl⟩ ⟨Nat.le_of_ble_eq_true rfl, Nat.le_of_ble_eq_true rfl⟩ hl.1 rfl (Nat.le_of_ble_eq_true rfl) dX9_rate_8 ⟨Nat.zero_le _, Nat.zero_le _⟩ (fun r3 i3 g3 H locs hq hT hS => ?_)
  obtain ⟨eh3, rfl⟩ := hq
  rw [(Prod.mk.inj eh3).1, (Prod.mk.inj eh3).2] at hT
  refine lv_if_eq (tgt := 26) hx hb dX9_rate_11 (by decide) (fun c4 => ?_) (fun c4 => (x_ne (rg_k (by decide) : rg 0 0 0) (rg_k (by decide) : rg 0 0 0) (i_ne c4) (by decide)).elim)
  refine lv_bipush (v := (-2)) hx hb dX9_rate_26 (by decide) ?_
  exact hret (-2) _ _ _ _ _ _ dX9_rate_28 hT hS ⟨hR1, rfl⟩

set_option maxRecDepth 100000 in
set_option maxHeartbeats 4000000 in
theorem k_X9_fault {l : Launch} {D : va_G} {h : Nat → Nat} {cz : Nat → ClassId} {i : Nat → Nat → Int32} {g : Nat → Nat → Int64} (hR : Rg rM i) (a_a : Int32) : CtI l yX9_fault cX9_fault 2 (some .int) ({ frames := 0, cells := 0, slots := 0, locals := 0 } : Room) D h cz i g [.ref (h 96), .int a_a] (fun r u => (Rg rM u.1 ∧ r = 0 ∧ (a_a.toInt = 0)) ∨ (Rg rM u.1 ∧ r = (-1) ∧ (¬ a_a.toInt = 0))) := by
  refine k_I pn_X9_fault (Nat.le_of_ble_eq_true rfl) ?_
  intro p e s m args below meth c ls Q X hret hT hl hS
  have hx := X.1
  have hb := X.2.1
  have hl : lv_has ls 2 [(0, .ref (h 96)), (1, .int a_a)] := hl
  refine lv_aload_n hx hb dX9_fault_0 rfl (lv_at hl 0 rfl) ?_
  refine lv_iconst (v := 0) hx hb dX9_fault_1 (by decide) ?_
  refine r_puti X hT hS 96 0 pk_9_83 rfl rfl rfl rfl (by decide) dX9_fault_2 (fun H locs i1 ei1 hT hS => ?_)
  have hR1 := Rg_put hR ei1 0 0 rfl (rg_k (by decide) : rg 0 0 0) (by decide)
  refine lv_iload_n hx hb dX9_fault_5 rfl (lv_at hl 1 rfl) ?_
  refine lv_if_ne (tgt := 16) hx hb dX9_fault_6 (by decide) (fun c2 => ?_) (fun c2 => ?_)
  ·
    have q2 : ¬ a_a.toInt = 0 := i_ne c2
    refine lv_iload_n hx hb dX9_fault_16 rfl (lv_at hl 1 rfl) ?_
    refine lv_iconst (v := 1) hx hb dX9_fault_17 (by decide) ?_
    refine lv_icmp_ne (tgt := 28) hx hb dX9_fault_18 (by decide) (fun c3 => ?_) (fun c3 => ?_)
    ·
      have q3 : ¬ a_a.toInt = 1 := i_ne c3
      refine lv_iconst (v := (-1)) hx hb dX9_fault_28 (by decide) ?_
      exact hret (-1) _ _ _ _ _ _ dX9_fault_29 hT hS (Or.inr ⟨hR1, rfl, (by omega)⟩)
    ·
      have q3 : a_a.toInt = 1 := i_eq c3
      have h4 : rg 1 1 a_a := t_eqx 1 1 (rg_top a_a) (rg_k (by decide) : rg 1 1 1) (i_eq c3) (by decide)
      refine lv_aload_n hx hb dX9_fault_21 rfl (lv_at hl 0 rfl) ?_
      refine r_geti X hT 96 15 fk_9_27 rfl rfl (by decide) dX9_fault_22 ?_
      refine lv_goto (tgt := 29) hx hb dX9_fault_25 (by decide) ?_
      exact hret (i1 96 15) _ _ _ _ _ _ dX9_fault_29 hT hS (Or.inr ⟨hR1, (rg_c (Rg_at hR1 96 15 (-1) (-1) (by decide) rfl)), (by have := h4.1; have := h4.2; have := (Rg_at hR1 96 15 (-1) (-1) (by decide) rfl).1; have := (Rg_at hR1 96 15 (-1) (-1) (by decide) rfl).2; omega)⟩)
  ·
    have q2 : a_a.toInt = 0 := i_eq c2
    have h5 : rg 0 0 a_a := t_eqx 0 0 (rg_top a_a) (rg_k (by decide) : rg 0 0 0) (i_eq c2) (by decide)
    refine lv_aload_n hx hb dX9_fault_9 rfl (lv_at hl 0 rfl) ?_
    refine r_geti X hT 96 14 fk_9_162 rfl rfl (by decide) dX9_fault_10 ?_
    refine lv_goto (tgt := 29) hx hb dX9_fault_13 (by decide) ?_
    exact hret (i1 96 14) _ _ _ _ _ _ dX9_fault_29 hT hS (Or.inl ⟨hR1, (rg_c (Rg_at hR1 96 14 0 0 (by decide) rfl)), (by have := h5.1; have := h5.2; have := (Rg_at hR1 96 14 0 0 (by decide) rfl).1; have := (Rg_at hR1 96 14 0 0 (by decide) rfl).2; omega)⟩)

set_option maxRecDepth 100000 in
set_option maxHeartbeats 4000000 in
theorem k_X9_end {l : Launch} {D : va_G} {h : Nat → Nat} {cz : Nat → ClassId} {i : Nat → Nat → Int32} {g : Nat → Nat → Int64} (hR : Rg rM i) (a_a : Int32) : CtI l yX9_end cX9_end 2 (some .int) ({ frames := 1, cells := 0, slots := 0, locals := 25 } : Room) D h cz i g [.ref (h 96), .int a_a] (fun r u => (Rg rM u.1 ∧ r = 0 ∧ (a_a.toInt = 0)) ∨ (Rg rM u.1 ∧ r = (-1) ∧ (¬ a_a.toInt = 0))) := by
  refine k_I pn_X9_end (Nat.le_of_ble_eq_true rfl) ?_
  intro p e s m args below meth c ls Q X hret hT hl hS
  have hx := X.1
  have hb := X.2.1
  have hl : lv_has ls 2 [(0, .ref (h 96)), (1, .int a_a)] := hl
  refine lv_aload_n hx hb dX9_end_0 rfl (lv_at hl 0 rfl) ?_
  refine lv_iconst (v := 0) hx hb dX9_end_1 (by decide) ?_
  refine r_puti X hT hS 96 0 pk_9_83 rfl rfl rfl rfl (by decide) dX9_end_2 (fun H locs i1 ei1 hT hS => ?_)
  have hR1 := Rg_put hR ei1 0 0 rfl (rg_k (by decide) : rg 0 0 0) (by decide)
  refine lv_iload_n hx hb dX9_end_5 rfl (lv_at hl 1 rfl) ?_
  refine q_i2l hx hb dX9_end_6 (fun y2 ey2 => ?_)
  obtain ⟨hy2, ay2⟩ := rg_i2l ey2 (rg_top a_a)
  refine lv_lconst (v := 0) hx hb dX9_end_7 (by decide) ?_
  refine lv_aload_n hx hb dX9_end_8 rfl (lv_at hl 0 rfl) ?_
  refine r_geti X hT 96 6 fk_9_100 rfl rfl (by decide) dX9_end_9 ?_
  refine q_i2l hx hb dX9_end_12 (fun y3 ey3 => ?_)
  obtain ⟨hy3, ay3⟩ := rg_i2l ey3 (Rg_at hR1 96 6 0 0 (by decide) rfl)
  refine r_Si (As := [.long y2, .long 0, .long y3]) (rest := []) X hT hS (k_in y2 (0) y3) sk_X9_in gm_1496 hd_X9_in ⟨rfl, rfl⟩ ⟨Nat.le_of_ble_eq_true rfl, Nat.le_of_ble_eq_true rfl⟩ hl.1 rfl (Nat.le_of_ble_eq_true rfl) dX9_end_13 ⟨Nat.zero_le _, Nat.zero_le _⟩ (fun r4 i4 g4 H locs hq hT hS => ?_)
  rcases hq with hq | hq
  ·
    obtain ⟨eh4, rfl, hf4_0⟩ := hq
    rw [(Prod.mk.inj eh4).1, (Prod.mk.inj eh4).2] at hT
    replace hf4_0 : 0 ≤ y2.toInt ∧ y2.toInt ≤ y3.toInt := hf4_0
    have h5 : rgL 0 0 y2 := ⟨by have := hy2.1; have := hy2.2; have := hy3.1; have := hy3.2; omega, by have := hy2.1; have := hy2.2; have := hy3.1; have := hy3.2; omega⟩
    have h6 : rg 0 0 a_a := ⟨by have := h5.1; omega, by have := h5.2; omega⟩
    refine lv_if_ne (tgt := 21) hx hb dX9_end_16 (by decide) (fun c7 => ?_) (fun c7 => (x_eq (rg_k (by decide) : rg 1 1 1) (rg_k (by decide) : rg 0 0 0) (i_eq c7) (by decide)).elim)
    refine lv_aload_n hx hb dX9_end_21 rfl (lv_at hl 0 rfl) ?_
    refine lv_iload_n hx hb dX9_end_22 rfl (lv_at hl 1 rfl) ?_
    refine r_puti X hT hS 96 6 pk_9_100 rfl rfl rfl rfl (by decide) dX9_end_23 (fun H locs i8 ei8 hT hS => ?_)
    have hR8 := Rg_put hR1 ei8 0 0 rfl h6 (by decide)
    refine lv_iload_n hx hb dX9_end_26 rfl (lv_at hl 1 rfl) ?_
    exact hret a_a _ _ _ _ _ _ dX9_end_27 hT hS (Or.inl ⟨hR8, (rg_c h6), (by have := (Rg_at hR1 96 6 0 0 (by decide) rfl).1; have := (Rg_at hR1 96 6 0 0 (by decide) rfl).2; have := h6.1; have := h6.2; omega)⟩)
  ·
    obtain ⟨eh4, rfl, hf4_0⟩ := hq
    rw [(Prod.mk.inj eh4).1, (Prod.mk.inj eh4).2] at hT
    replace hf4_0 : y2.toInt < 0 ∨ y3.toInt < y2.toInt := hf4_0
    refine lv_if_ne (tgt := 21) hx hb dX9_end_16 (by decide) (fun c9 => (x_ne (rg_k (by decide) : rg 0 0 0) (rg_k (by decide) : rg 0 0 0) (i_ne c9) (by decide)).elim) (fun c9 => ?_)
    refine lv_iconst (v := (-1)) hx hb dX9_end_19 (by decide) ?_
    exact hret (-1) _ _ _ _ _ _ dX9_end_20 hT hS (Or.inr ⟨hR1, rfl, (by have := (Rg_at hR1 96 6 0 0 (by decide) rfl).1; have := (Rg_at hR1 96 6 0 0 (by decide) rfl).2; omega)⟩)

set_option maxRecDepth 100000 in
set_option maxHeartbeats 4000000 in
theorem k_X9_count {l : Launch} {D : va_G} {h : Nat → Nat} {cz : Nat → ClassId} {i : Nat → Nat → Int32} {g : Nat → Nat → Int64} (hR : Rg rM i) (a_a : Int32) : CtI l yX9_count cX9_count 4 (some .int) ({ frames := 1, cells := 0, slots := 0, locals := 25 } : Room) D h cz i g [.ref (h 96), .int a_a] (fun r u => (Rg rM u.1 ∧ r = 0 ∧ (0 ≤ a_a.toInt ∧ a_a.toInt ≤ 9)) ∨ (Rg rM u.1 ∧ r = (-1) ∧ (a_a.toInt < 0 ∨ 9 < a_a.toInt))) := by
  refine k_I pn_X9_count (Nat.le_of_ble_eq_true rfl) ?_
  intro p e s m args below meth c ls Q X hret hT hl hS
  have hx := X.1
  have hb := X.2.1
  have hl : lv_has ls 4 [(0, .ref (h 96)), (1, .int a_a)] := hl
  refine lv_aload_n hx hb dX9_count_0 rfl (lv_at hl 0 rfl) ?_
  refine lv_iconst (v := 0) hx hb dX9_count_1 (by decide) ?_
  refine r_puti X hT hS 96 0 pk_9_83 rfl rfl rfl rfl (by decide) dX9_count_2 (fun H locs i1 ei1 hT hS => ?_)
  have hR1 := Rg_put hR ei1 0 0 rfl (rg_k (by decide) : rg 0 0 0) (by decide)
  refine lv_iload_n hx hb dX9_count_5 rfl (lv_at hl 1 rfl) ?_
  refine q_i2l hx hb dX9_count_6 (fun y2 ey2 => ?_)
  obtain ⟨hy2, ay2⟩ := rg_i2l ey2 (rg_top a_a)
  refine lv_lconst (v := 0) hx hb dX9_count_7 (by decide) ?_
  refine lv_ldc2 (v := 6) hx hb X.2.2.2.1 (X.2.2.2.2.1 _ gm_2103) dX9_count_8 ?_
  refine r_Si (As := [.long y2, .long 0, .long 6]) (rest := []) X hT hS (k_in y2 (0) (6)) sk_X9_in gm_1496 hd_X9_in ⟨rfl, rfl⟩ ⟨Nat.le_of_ble_eq_true rfl, Nat.le_of_ble_eq_true rfl⟩ hl.1 rfl (Nat.le_of_ble_eq_true rfl) dX9_count_11 ⟨Nat.zero_le _, Nat.zero_le _⟩ (fun r3 i3 g3 H locs hq hT hS => ?_)
  rcases hq with hq | hq
  ·
    obtain ⟨eh3, rfl, hf3_0⟩ := hq
    rw [(Prod.mk.inj eh3).1, (Prod.mk.inj eh3).2] at hT
    replace hf3_0 : 0 ≤ y2.toInt ∧ y2.toInt ≤ 6 := hf3_0
    have h4 : rgL 0 6 y2 := ⟨by have := hy2.1; have := hy2.2; omega, by have := hy2.1; have := hy2.2; omega⟩
    have h5 : rg 0 6 a_a := ⟨by have := h4.1; omega, by have := h4.2; omega⟩
    refine lv_if_eq (tgt := 24) hx hb dX9_count_14 (by decide) (fun c6 => (x_eq (rg_k (by decide) : rg 1 1 1) (rg_k (by decide) : rg 0 0 0) (i_eq c6) (by decide)).elim) (fun c6 => ?_)
    refine lv_aload_n hx hb dX9_count_17 rfl (lv_at hl 0 rfl) ?_
    refine r_getr X hT 96 17 103 fk_9_34 rfl rfl (by decide) dX9_count_18 ?_
    refine lv_iload_n hx hb dX9_count_21 rfl (lv_at hl 1 rfl) ?_
    refine r_iald X hT 103 rfl (by decide) (v_in h5 (by decide)) dX9_count_22 ?_
    exact hret (i1 103 a_a.toNatClampNeg) _ _ _ _ _ _ dX9_count_23 hT hS (Or.inl ⟨hR1, (rg_c (Rg_at hR1 103 a_a.toNatClampNeg 0 0 (v_lt (v_in h5 (by decide))) rfl)), (by have := h5.1; have := h5.2; have := (Rg_at hR1 103 a_a.toNatClampNeg 0 0 (v_lt (v_in h5 (by decide))) rfl).1; have := (Rg_at hR1 103 a_a.toNatClampNeg 0 0 (v_lt (v_in h5 (by decide))) rfl).2; omega)⟩)
  ·
    obtain ⟨eh3, rfl, hf3_0⟩ := hq
    rw [(Prod.mk.inj eh3).1, (Prod.mk.inj eh3).2] at hT
    replace hf3_0 : y2.toInt < 0 ∨ 6 < y2.toInt := hf3_0
    refine lv_if_eq (tgt := 24) hx hb dX9_count_14 (by decide) (fun c7 => ?_) (fun c7 => (x_ne (rg_k (by decide) : rg 0 0 0) (rg_k (by decide) : rg 0 0 0) (i_ne c7) (by decide)).elim)
    refine lv_iconst (v := 0) hx hb dX9_count_24 (by decide) ?_
    refine lv_istore_n (lv' := [(2, .int 0), (0, .ref (h 96)), (1, .int a_a)]) hx hb dX9_count_25 rfl hl (by decide) rfl (fun ls hl => ?_)
    refine lv_iload_n hx hb dX9_count_26 rfl (lv_at hl 2 rfl) ?_
    rcases Int.lt_or_le a_a.toInt 7 with c8 | c8
    ·
      refine lv_tableOut (tgt := 97) hx hb dX9_count_27 (Or.inl c8) (by decide) ?_
      refine lv_iconst (v := (-1)) hx hb dX9_count_97 (by decide) ?_
      exact hret (-1) _ _ _ _ _ _ dX9_count_98 hT hS (Or.inr ⟨hR1, rfl, (by omega)⟩)
    ·
      rcases Int.lt_or_le 9 a_a.toInt with d8 | d8
      ·
        refine lv_tableOut (tgt := 97) hx hb dX9_count_27 (Or.inr d8) (by decide) ?_
        refine lv_iconst (v := (-1)) hx hb dX9_count_97 (by decide) ?_
        exact hret (-1) _ _ _ _ _ _ dX9_count_98 hT hS (Or.inr ⟨hR1, rfl, (by omega)⟩)
      ·
        rcases (show a_a.toInt = 7 ∨ a_a.toInt = 8 ∨ a_a.toInt = 9 by omega) with f8 | f8 | f8
        ·
          refine lv_tableIn (tgt := 52) (off := 25) hx hb dX9_count_27 (by omega) (by omega) (by rw [f8]; rfl) (by decide) ?_
          have h9 : rg 7 7 a_a := ⟨by omega, by omega⟩
          refine lv_aload_n hx hb dX9_count_52 rfl (lv_at hl 1 rfl) ?_
          refine r_getr X hT 96 16 102 fk_9_31 rfl rfl (by decide) dX9_count_53 ?_
          refine lv_iconst (v := 0) hx hb dX9_count_56 (by decide) ?_
          refine r_iald X hT 102 rfl (by decide) (v_in (rg_k (by decide) : rg 0 0 0) (by decide)) dX9_count_57 ?_
          exact hret (i1 102 (0 : Int32).toNatClampNeg) _ _ _ _ _ _ dX9_count_58 hT hS (Or.inl ⟨hR1, (rg_c (Rg_at hR1 102 (0 : Int32).toNatClampNeg 0 0 (v_lt (v_in (rg_k (by decide) : rg 0 0 0) (by decide))) rfl)), (by have := h9.1; have := h9.2; have := (Rg_at hR1 102 (0 : Int32).toNatClampNeg 0 0 (v_lt (v_in (rg_k (by decide) : rg 0 0 0) (by decide))) rfl).1; have := (Rg_at hR1 102 (0 : Int32).toNatClampNeg 0 0 (v_lt (v_in (rg_k (by decide) : rg 0 0 0) (by decide))) rfl).2; omega)⟩)
        ·
          refine lv_tableIn (tgt := 59) (off := 32) hx hb dX9_count_27 (by omega) (by omega) (by rw [f8]; rfl) (by decide) ?_
          have h10 : rg 8 8 a_a := ⟨by omega, by omega⟩
          refine lv_aload_n hx hb dX9_count_59 rfl (lv_at hl 1 rfl) ?_
          refine r_geti X hT 96 6 fk_9_100 rfl rfl (by decide) dX9_count_60 ?_
          exact hret (i1 96 6) _ _ _ _ _ _ dX9_count_63 hT hS (Or.inl ⟨hR1, (rg_c (Rg_at hR1 96 6 0 0 (by decide) rfl)), (by have := h10.1; have := h10.2; have := (Rg_at hR1 96 6 0 0 (by decide) rfl).1; have := (Rg_at hR1 96 6 0 0 (by decide) rfl).2; omega)⟩)
        ·
          refine lv_tableIn (tgt := 64) (off := 37) hx hb dX9_count_27 (by omega) (by omega) (by rw [f8]; rfl) (by decide) ?_
          have h11 : rg 9 9 a_a := ⟨by omega, by omega⟩
          refine lv_iconst (v := 0) hx hb dX9_count_64 (by decide) ?_
          refine lv_istore_n (lv' := [(3, .int 0), (2, .int 0), (0, .ref (h 96)), (1, .int a_a)]) hx hb dX9_count_65 rfl hl (by decide) rfl (fun ls hl => ?_)
          refine lv_iload_n hx hb dX9_count_66 rfl (lv_at hl 0 rfl) ?_
          refine lv_iconst (v := 4) hx hb dX9_count_67 (by decide) ?_
          refine lv_icmp_ge (tgt := 95) hx hb dX9_count_68 (by decide) (fun c12 => (x_le (rg_k (by decide) : rg 4 4 4) (rg_k (by decide) : rg 0 0 0) (i_le c12) (by decide)).elim) (fun c12 => ?_)
          refine lv_iload_n hx hb dX9_count_71 rfl (lv_at hl 1 rfl) ?_
          refine lv_aload_n hx hb dX9_count_72 rfl (lv_at hl 2 rfl) ?_
          refine r_getr X hT 96 1 97 fk_9_7 rfl rfl (by decide) dX9_count_73 ?_
          refine lv_iload_n hx hb dX9_count_76 rfl (lv_at hl 0 rfl) ?_
          refine r_iald X hT 97 rfl (by decide) (v_in (rg_k (by decide) : rg 0 0 0) (by decide)) dX9_count_77 ?_
          refine lv_iconst (v := (-1)) hx hb dX9_count_78 (by decide) ?_
          refine lv_icmp_ne (tgt := 86) hx hb dX9_count_79 (by decide) (fun c13 => (x_ne (Rg_at hR1 97 (0 : Int32).toNatClampNeg (-1) (-1) (v_lt (v_in (rg_k (by decide) : rg 0 0 0) (by decide))) rfl) (rg_k (by decide) : rg (-1) (-1) (-1)) (i_ne c13) (by decide)).elim) (fun c13 => ?_)
          have q13 : (i1 97 (0 : Int32).toNatClampNeg).toInt = (-1) := i_eq c13
          refine lv_iconst (v := 0) hx hb dX9_count_82 (by decide) ?_
          refine lv_goto (tgt := 87) hx hb dX9_count_83 (by decide) ?_
          refine q_iadd hx hb dX9_count_87 (fun x14 ex14 => ?_)
          obtain ⟨hx14, ax14⟩ := rg_add 0 0 ex14 (rg_k (by decide) : rg 0 0 0) (rg_k (by decide) : rg 0 0 0) (by decide)
          replace ax14 : x14.toInt = 0 + 0 := ax14
          refine lv_istore_n (lv' := [(2, .int x14), (3, .int 0), (0, .ref (h 96)), (1, .int a_a)]) hx hb dX9_count_88 rfl hl (by decide) rfl (fun ls hl => ?_)
          obtain ⟨x15, ex15⟩ : ∃ y : Int32, y = 0 + 1 := ⟨_, rfl⟩
          refine lv_iinc (v := x15) (lv' := [(3, .int x15), (2, .int x14), (0, .ref (h 96)), (1, .int a_a)]) hx hb dX9_count_89 hl (k := 1) rfl (by rw [ex15]; rfl) (by decide) rfl (fun ls hl => ?_)
          obtain ⟨hx15, ax15⟩ := rg_add 1 1 ex15 (rg_k (by decide) : rg 0 0 0) (rg_k (by decide) : rg 1 1 1) (by decide)
          replace ax15 : x15.toInt = 0 + 1 := ax15
          refine lv_goto (tgt := 66) hx hb dX9_count_92 (by decide) ?_
          refine lv_iload_n hx hb dX9_count_66 rfl (lv_at hl 0 rfl) ?_
          refine lv_iconst (v := 4) hx hb dX9_count_67 (by decide) ?_
          refine lv_icmp_ge (tgt := 95) hx hb dX9_count_68 (by decide) (fun c16 => (x_le (rg_k (by decide) : rg 4 4 4) hx15 (i_le c16) (by decide)).elim) (fun c16 => ?_)
          have q16 : x15.toInt < 4 := i_nle c16
          refine lv_iload_n hx hb dX9_count_71 rfl (lv_at hl 1 rfl) ?_
          refine lv_aload_n hx hb dX9_count_72 rfl (lv_at hl 2 rfl) ?_
          refine r_getr X hT 96 1 97 fk_9_7 rfl rfl (by decide) dX9_count_73 ?_
          refine lv_iload_n hx hb dX9_count_76 rfl (lv_at hl 0 rfl) ?_
          refine r_iald X hT 97 rfl (by decide) (v_in hx15 (by decide)) dX9_count_77 ?_
          refine lv_iconst (v := (-1)) hx hb dX9_count_78 (by decide) ?_
          refine lv_icmp_ne (tgt := 86) hx hb dX9_count_79 (by decide) (fun c17 => (x_ne (Rg_at hR1 97 x15.toNatClampNeg (-1) (-1) (v_lt (v_in hx15 (by decide))) rfl) (rg_k (by decide) : rg (-1) (-1) (-1)) (i_ne c17) (by decide)).elim) (fun c17 => ?_)
          have q17 : (i1 97 x15.toNatClampNeg).toInt = (-1) := i_eq c17
          refine lv_iconst (v := 0) hx hb dX9_count_82 (by decide) ?_
          refine lv_goto (tgt := 87) hx hb dX9_count_83 (by decide) ?_
          refine q_iadd hx hb dX9_count_87 (fun x18 ex18 => ?_)
          obtain ⟨hx18, ax18⟩ := rg_add 0 0 ex18 hx14 (rg_k (by decide) : rg 0 0 0) (by decide)
          replace ax18 : x18.toInt = x14.toInt + 0 := ax18
          refine lv_istore_n (lv' := [(2, .int x18), (3, .int x15), (0, .ref (h 96)), (1, .int a_a)]) hx hb dX9_count_88 rfl hl (by decide) rfl (fun ls hl => ?_)
          obtain ⟨x19, ex19⟩ : ∃ y : Int32, y = x15 + 1 := ⟨_, rfl⟩
          refine lv_iinc (v := x19) (lv' := [(3, .int x19), (2, .int x18), (0, .ref (h 96)), (1, .int a_a)]) hx hb dX9_count_89 hl (k := 1) rfl (by rw [ex19]; rfl) (by decide) rfl (fun ls hl => ?_)
          obtain ⟨hx19, ax19⟩ := rg_add 2 2 ex19 hx15 (rg_k (by decide) : rg 1 1 1) (by decide)
          replace ax19 : x19.toInt = x15.toInt + 1 := ax19
          refine lv_goto (tgt := 66) hx hb dX9_count_92 (by decide) ?_
          refine lv_iload_n hx hb dX9_count_66 rfl (lv_at hl 0 rfl) ?_
          refine lv_iconst (v := 4) hx hb dX9_count_67 (by decide) ?_
          refine lv_icmp_ge (tgt := 95) hx hb dX9_count_68 (by decide) (fun c20 => (x_le (rg_k (by decide) : rg 4 4 4) hx19 (i_le c20) (by decide)).elim) (fun c20 => ?_)
          have q20 : x19.toInt < 4 := i_nle c20
          refine lv_iload_n hx hb dX9_count_71 rfl (lv_at hl 1 rfl) ?_
          refine lv_aload_n hx hb dX9_count_72 rfl (lv_at hl 2 rfl) ?_
          refine r_getr X hT 96 1 97 fk_9_7 rfl rfl (by decide) dX9_count_73 ?_
          refine lv_iload_n hx hb dX9_count_76 rfl (lv_at hl 0 rfl) ?_
          refine r_iald X hT 97 rfl (by decide) (v_in hx19 (by decide)) dX9_count_77 ?_
          refine lv_iconst (v := (-1)) hx hb dX9_count_78 (by decide) ?_
          refine lv_icmp_ne (tgt := 86) hx hb dX9_count_79 (by decide) (fun c21 => (x_ne (Rg_at hR1 97 x19.toNatClampNeg (-1) (-1) (v_lt (v_in hx19 (by decide))) rfl) (rg_k (by decide) : rg (-1) (-1) (-1)) (i_ne c21) (by decide)).elim) (fun c21 => ?_)
          have q21 : (i1 97 x19.toNatClampNeg).toInt = (-1) := i_eq c21
          refine lv_iconst (v := 0) hx hb dX9_count_82 (by decide) ?_
          refine lv_goto (tgt := 87) hx hb dX9_count_83 (by decide) ?_
          refine q_iadd hx hb dX9_count_87 (fun x22 ex22 => ?_)
          obtain ⟨hx22, ax22⟩ := rg_add 0 0 ex22 hx18 (rg_k (by decide) : rg 0 0 0) (by decide)
          replace ax22 : x22.toInt = x18.toInt + 0 := ax22
          refine lv_istore_n (lv' := [(2, .int x22), (3, .int x19), (0, .ref (h 96)), (1, .int a_a)]) hx hb dX9_count_88 rfl hl (by decide) rfl (fun ls hl => ?_)
          obtain ⟨x23, ex23⟩ : ∃ y : Int32, y = x19 + 1 := ⟨_, rfl⟩
          refine lv_iinc (v := x23) (lv' := [(3, .int x23), (2, .int x22), (0, .ref (h 96)), (1, .int a_a)]) hx hb dX9_count_89 hl (k := 1) rfl (by rw [ex23]; rfl) (by decide) rfl (fun ls hl => ?_)
          obtain ⟨hx23, ax23⟩ := rg_add 3 3 ex23 hx19 (rg_k (by decide) : rg 1 1 1) (by decide)
          replace ax23 : x23.toInt = x19.toInt + 1 := ax23
          refine lv_goto (tgt := 66) hx hb dX9_count_92 (by decide) ?_
          refine lv_iload_n hx hb dX9_count_66 rfl (lv_at hl 0 rfl) ?_
          refine lv_iconst (v := 4) hx hb dX9_count_67 (by decide) ?_
          refine lv_icmp_ge (tgt := 95) hx hb dX9_count_68 (by decide) (fun c24 => (x_le (rg_k (by decide) : rg 4 4 4) hx23 (i_le c24) (by decide)).elim) (fun c24 => ?_)
          have q24 : x23.toInt < 4 := i_nle c24
          refine lv_iload_n hx hb dX9_count_71 rfl (lv_at hl 1 rfl) ?_
          refine lv_aload_n hx hb dX9_count_72 rfl (lv_at hl 2 rfl) ?_
          refine r_getr X hT 96 1 97 fk_9_7 rfl rfl (by decide) dX9_count_73 ?_
          refine lv_iload_n hx hb dX9_count_76 rfl (lv_at hl 0 rfl) ?_
          refine r_iald X hT 97 rfl (by decide) (v_in hx23 (by decide)) dX9_count_77 ?_
          refine lv_iconst (v := (-1)) hx hb dX9_count_78 (by decide) ?_
          refine lv_icmp_ne (tgt := 86) hx hb dX9_count_79 (by decide) (fun c25 => (x_ne (Rg_at hR1 97 x23.toNatClampNeg (-1) (-1) (v_lt (v_in hx23 (by decide))) rfl) (rg_k (by decide) : rg (-1) (-1) (-1)) (i_ne c25) (by decide)).elim) (fun c25 => ?_)
          have q25 : (i1 97 x23.toNatClampNeg).toInt = (-1) := i_eq c25
          refine lv_iconst (v := 0) hx hb dX9_count_82 (by decide) ?_
          refine lv_goto (tgt := 87) hx hb dX9_count_83 (by decide) ?_
          refine q_iadd hx hb dX9_count_87 (fun x26 ex26 => ?_)
          obtain ⟨hx26, ax26⟩ := rg_add 0 0 ex26 hx22 (rg_k (by decide) : rg 0 0 0) (by decide)
          replace ax26 : x26.toInt = x22.toInt + 0 := ax26
          refine lv_istore_n (lv' := [(2, .int x26), (3, .int x23), (0, .ref (h 96)), (1, .int a_a)]) hx hb dX9_count_88 rfl hl (by decide) rfl (fun ls hl => ?_)
          obtain ⟨x27, ex27⟩ : ∃ y : Int32, y = x23 + 1 := ⟨_, rfl⟩
          refine lv_iinc (v := x27) (lv' := [(3, .int x27), (2, .int x26), (0, .ref (h 96)), (1, .int a_a)]) hx hb dX9_count_89 hl (k := 1) rfl (by rw [ex27]; rfl) (by decide) rfl (fun ls hl => ?_)
          obtain ⟨hx27, ax27⟩ := rg_add 4 4 ex27 hx23 (rg_k (by decide) : rg 1 1 1) (by decide)
          replace ax27 : x27.toInt = x23.toInt + 1 := ax27
          refine lv_goto (tgt := 66) hx hb dX9_count_92 (by decide) ?_
          refine lv_iload_n hx hb dX9_count_66 rfl (lv_at hl 0 rfl) ?_
          refine lv_iconst (v := 4) hx hb dX9_count_67 (by decide) ?_
          refine lv_icmp_ge (tgt := 95) hx hb dX9_count_68 (by decide) (fun c28 => ?_) (fun c28 => (x_lt hx27 (rg_k (by decide) : rg 4 4 4) (i_nle c28) (by decide)).elim)
          have q28 : 4 ≤ x27.toInt := i_le c28
          refine lv_iload_n hx hb dX9_count_95 rfl (lv_at hl 1 rfl) ?_
          exact hret x26 _ _ _ _ _ _ dX9_count_96 hT hS (Or.inl ⟨hR1, (rg_c hx26), (by have := h11.1; have := h11.2; have := (Rg_at hR1 97 (0 : Int32).toNatClampNeg (-1) (-1) (v_lt (v_in (rg_k (by decide) : rg 0 0 0) (by decide))) rfl).1; have := (Rg_at hR1 97 (0 : Int32).toNatClampNeg (-1) (-1) (v_lt (v_in (rg_k (by decide) : rg 0 0 0) (by decide))) rfl).2; have := (Rg_at hR1 97 x15.toNatClampNeg (-1) (-1) (v_lt (v_in hx15 (by decide))) rfl).1; have := (Rg_at hR1 97 x15.toNatClampNeg (-1) (-1) (v_lt (v_in hx15 (by decide))) rfl).2; have := (Rg_at hR1 97 x19.toNatClampNeg (-1) (-1) (v_lt (v_in hx19 (by decide))) rfl).1; have := (Rg_at hR1 97 x19.toNatClampNeg (-1) (-1) (v_lt (v_in hx19 (by decide))) rfl).2; have := (Rg_at hR1 97 x23.toNatClampNeg (-1) (-1) (v_lt (v_in hx23 (by decide))) rfl).1; have := (Rg_at hR1 97 x23.toNatClampNeg (-1) (-1) (v_lt (v_in hx23 (by decide))) rfl).2; omega)⟩)

set_option maxRecDepth 100000 in
set_option maxHeartbeats 4000000 in
theorem k_M_copyRow_rN_102_1_0_1t3 {l : Launch} {D : va_G} {h : Nat → Nat} {cz : Nat → ClassId} {i : Nat → Nat → Int32} {g : Nat → Nat → Int64} (hR : Rg rN i) (a_b : Int32) (a_c : Int32) (a_d : Int32) (ha_b : rg 1 1 a_b) (ha_c : rg 0 0 a_c) (ha_d : rg 1 3 a_d) : CtV l yX9_copyRow cX9_copyRow 5 none ({ frames := 0, cells := 0, slots := 0, locals := 0 } : Room) D h cz i g [.ref (h 102), .int a_b, .int a_c, .int a_d] (fun u => Rg rN u.1) := by
  refine k_V pn_X9_copyRow (Nat.le_of_ble_eq_true rfl) ?_
  intro p e s m args below meth c ls Q X hret hT hl hS
  have hx := X.1
  have hb := X.2.1
  have hl : lv_has ls 5 [(0, .ref (h 102)), (1, .int a_b), (2, .int a_c), (3, .int a_d)] := hl
  refine lv_iconst (v := 0) hx hb dX9_copyRow_0 (by decide) ?_
  refine lv_istore (lv' := [(4, .int 0), (0, .ref (h 102)), (1, .int a_b), (2, .int a_c), (3, .int a_d)]) hx hb dX9_copyRow_1 hl (by decide) rfl (fun ls hl => ?_)
  have L3_1 : ∀ (n : Nat) (x3_4 : Int32) (i2 : Nat → Nat → Int32) (g2 : Nat → Nat → Int64) (H : Heap) (locs : List Loc) (ls : Array Slot), rg 0 1 x3_4 → Rg rN i2 → TH D h cz i2 g2 H → va_S (hA h) s.heap H locs → lv_has ls 5 [(0, .ref (h 102)), (1, .int a_b), (2, .int a_c), (3, .int a_d), (4, .int x3_4)] → (1 - x3_4.toInt).toNat < n → W p l e ({ frames := 0, cells := 0, slots := 0, locals := 0 } : Room) s m args below meth c H locs 0 0 Q (F0 m 3 ls []) := by
    intro n
    induction n with
    | zero => intro x3_4 i2 g2 H locs ls hhx3_4 hR2 hT hS hl hm; exact absurd hm (Nat.not_lt_zero _)
    | succ n ih =>
      intro x3_4 i2 g2 H locs ls hhx3_4 hR2 hT hS hl hm
      refine lv_iload hx hb dX9_copyRow_3 (lv_at hl 4 rfl) ?_
      refine lv_iload_n hx hb dX9_copyRow_5 rfl (lv_at hl 1 rfl) ?_
      refine lv_icmp_ge (tgt := 31) hx hb dX9_copyRow_6 (by decide) (fun c3 => ?_) (fun c3 => ?_)
      ·
        have q3 : a_b.toInt ≤ x3_4.toInt := i_le c3
        have h4 : rg 1 1 x3_4 := t_ley 1 1 ha_b hhx3_4 (i_le c3) (by decide)
        exact hret _ _ _ _ _ _ dX9_copyRow_31 hT hS hR2
      ·
        have q3 : x3_4.toInt < a_b.toInt := i_nle c3
        have h5 : rg 0 0 x3_4 := t_ltx 0 0 hhx3_4 ha_b (i_nle c3) (by decide)
        refine lv_aload_n hx hb dX9_copyRow_9 rfl (lv_at hl 0 rfl) ?_
        refine lv_iload_n hx hb dX9_copyRow_10 rfl (lv_at hl 1 rfl) ?_
        refine lv_iload_n hx hb dX9_copyRow_11 rfl (lv_at hl 3 rfl) ?_
        refine q_imul hx hb dX9_copyRow_12 (fun x6 ex6 => ?_)
        obtain ⟨hx6, ax6⟩ := rg_mul 1 3 ex6 ha_b ha_d (by decide)
        refine lv_iload hx hb dX9_copyRow_13 (lv_at hl 4 rfl) ?_
        refine q_iadd hx hb dX9_copyRow_15 (fun x7 ex7 => ?_)
        obtain ⟨hx7, ax7⟩ := rg_add 1 3 ex7 hx6 h5 (by decide)
        refine lv_aload_n hx hb dX9_copyRow_16 rfl (lv_at hl 0 rfl) ?_
        refine lv_iload_n hx hb dX9_copyRow_17 rfl (lv_at hl 1 rfl) ?_
        refine lv_iload_n hx hb dX9_copyRow_18 rfl (lv_at hl 2 rfl) ?_
        refine q_imul hx hb dX9_copyRow_19 (fun x8 ex8 => ?_)
        obtain ⟨hx8, ax8⟩ := rg_mul 0 0 ex8 ha_b ha_c (by decide)
        refine lv_iload hx hb dX9_copyRow_20 (lv_at hl 4 rfl) ?_
        refine q_iadd hx hb dX9_copyRow_22 (fun x9 ex9 => ?_)
        obtain ⟨hx9, ax9⟩ := rg_add 0 0 ex9 hx8 h5 (by decide)
        refine r_iald X hT 102 rfl (by decide) (v_in hx9 (by decide)) dX9_copyRow_23 ?_
        refine r_iast X hT hS 102 rfl (by decide) (v_in hx7 (by decide)) dX9_copyRow_24 (fun H locs i10 ei10 hT hS => ?_)
        have hR10 := Rg_put hR2 ei10 0 0 rfl (Rg_at hR2 102 x9.toNatClampNeg 0 0 (v_lt (v_in hx9 (by decide))) rfl) (by decide)
        obtain ⟨x11, ex11⟩ : ∃ y : Int32, y = x3_4 + 1 := ⟨_, rfl⟩
        refine lv_iinc (v := x11) (lv' := [(4, .int x11), (0, .ref (h 102)), (1, .int a_b), (2, .int a_c), (3, .int a_d)]) hx hb dX9_copyRow_25 hl (k := 4) rfl (by rw [ex11]; rfl) (by decide) rfl (fun ls hl => ?_)
        obtain ⟨hx11, ax11⟩ := rg_add 1 1 ex11 h5 (rg_k (by decide) : rg 1 1 1) (by decide)
        replace ax11 : x11.toInt = x3_4.toInt + 1 := ax11
        refine lv_goto (tgt := 3) hx hb dX9_copyRow_28 (by decide) ?_
        exact ih x11 _ _ _ _ _ (rg_w hx11 (by decide) : rg 0 1 x11) hR10 hT hS (lv_sub hl [1, 2, 3, 4, 0] rfl) (m_up ax11 hx11 (by decide) hm)
  exact L3_1 _ 0 _ _ _ _ _ (rg_w (rg_k (by decide) : rg 0 0 0) (by decide) : rg 0 1 0) hR hT hS (lv_sub hl [1, 2, 3, 4, 0] rfl) (Nat.lt_succ_self _)

set_option maxRecDepth 100000 in
set_option maxHeartbeats 4000000 in
theorem k_M_copyRow_rN_103_7_0_1t3 {l : Launch} {D : va_G} {h : Nat → Nat} {cz : Nat → ClassId} {i : Nat → Nat → Int32} {g : Nat → Nat → Int64} (hR : Rg rN i) (a_b : Int32) (a_c : Int32) (a_d : Int32) (ha_b : rg 7 7 a_b) (ha_c : rg 0 0 a_c) (ha_d : rg 1 3 a_d) : CtV l yX9_copyRow cX9_copyRow 5 none ({ frames := 0, cells := 0, slots := 0, locals := 0 } : Room) D h cz i g [.ref (h 103), .int a_b, .int a_c, .int a_d] (fun u => Rg rN u.1) := by
  refine k_V pn_X9_copyRow (Nat.le_of_ble_eq_true rfl) ?_
  intro p e s m args below meth c ls Q X hret hT hl hS
  have hx := X.1
  have hb := X.2.1
  have hl : lv_has ls 5 [(0, .ref (h 103)), (1, .int a_b), (2, .int a_c), (3, .int a_d)] := hl
  refine lv_iconst (v := 0) hx hb dX9_copyRow_0 (by decide) ?_
  refine lv_istore (lv' := [(4, .int 0), (0, .ref (h 103)), (1, .int a_b), (2, .int a_c), (3, .int a_d)]) hx hb dX9_copyRow_1 hl (by decide) rfl (fun ls hl => ?_)
  have L3_1 : ∀ (n : Nat) (x3_4 : Int32) (i2 : Nat → Nat → Int32) (g2 : Nat → Nat → Int64) (H : Heap) (locs : List Loc) (ls : Array Slot), rg 0 7 x3_4 → Rg rN i2 → TH D h cz i2 g2 H → va_S (hA h) s.heap H locs → lv_has ls 5 [(0, .ref (h 103)), (1, .int a_b), (2, .int a_c), (3, .int a_d), (4, .int x3_4)] → (7 - x3_4.toInt).toNat < n → W p l e ({ frames := 0, cells := 0, slots := 0, locals := 0 } : Room) s m args below meth c H locs 0 0 Q (F0 m 3 ls []) := by
    intro n
    induction n with
    | zero => intro x3_4 i2 g2 H locs ls hhx3_4 hR2 hT hS hl hm; exact absurd hm (Nat.not_lt_zero _)
    | succ n ih =>
      intro x3_4 i2 g2 H locs ls hhx3_4 hR2 hT hS hl hm
      refine lv_iload hx hb dX9_copyRow_3 (lv_at hl 4 rfl) ?_
      refine lv_iload_n hx hb dX9_copyRow_5 rfl (lv_at hl 1 rfl) ?_
      refine lv_icmp_ge (tgt := 31) hx hb dX9_copyRow_6 (by decide) (fun c3 => ?_) (fun c3 => ?_)
      ·
        have q3 : a_b.toInt ≤ x3_4.toInt := i_le c3
        have h4 : rg 7 7 x3_4 := t_ley 7 7 ha_b hhx3_4 (i_le c3) (by decide)
        exact hret _ _ _ _ _ _ dX9_copyRow_31 hT hS hR2
      ·
        have q3 : x3_4.toInt < a_b.toInt := i_nle c3
        have h5 : rg 0 6 x3_4 := t_ltx 0 6 hhx3_4 ha_b (i_nle c3) (by decide)
        refine lv_aload_n hx hb dX9_copyRow_9 rfl (lv_at hl 0 rfl) ?_
        refine lv_iload_n hx hb dX9_copyRow_10 rfl (lv_at hl 1 rfl) ?_
        refine lv_iload_n hx hb dX9_copyRow_11 rfl (lv_at hl 3 rfl) ?_
        refine q_imul hx hb dX9_copyRow_12 (fun x6 ex6 => ?_)
        obtain ⟨hx6, ax6⟩ := rg_mul 7 21 ex6 ha_b ha_d (by decide)
        refine lv_iload hx hb dX9_copyRow_13 (lv_at hl 4 rfl) ?_
        refine q_iadd hx hb dX9_copyRow_15 (fun x7 ex7 => ?_)
        obtain ⟨hx7, ax7⟩ := rg_add 7 27 ex7 hx6 h5 (by decide)
        refine lv_aload_n hx hb dX9_copyRow_16 rfl (lv_at hl 0 rfl) ?_
        refine lv_iload_n hx hb dX9_copyRow_17 rfl (lv_at hl 1 rfl) ?_
        refine lv_iload_n hx hb dX9_copyRow_18 rfl (lv_at hl 2 rfl) ?_
        refine q_imul hx hb dX9_copyRow_19 (fun x8 ex8 => ?_)
        obtain ⟨hx8, ax8⟩ := rg_mul 0 0 ex8 ha_b ha_c (by decide)
        refine lv_iload hx hb dX9_copyRow_20 (lv_at hl 4 rfl) ?_
        refine q_iadd hx hb dX9_copyRow_22 (fun x9 ex9 => ?_)
        obtain ⟨hx9, ax9⟩ := rg_add 0 6 ex9 hx8 h5 (by decide)
        refine r_iald X hT 103 rfl (by decide) (v_in hx9 (by decide)) dX9_copyRow_23 ?_
        refine r_iast X hT hS 103 rfl (by decide) (v_in hx7 (by decide)) dX9_copyRow_24 (fun H locs i10 ei10 hT hS => ?_)
        have hR10 := Rg_put hR2 ei10 0 0 rfl (Rg_at hR2 103 x9.toNatClampNeg 0 0 (v_lt (v_in hx9 (by decide))) rfl) (by decide)
        obtain ⟨x11, ex11⟩ : ∃ y : Int32, y = x3_4 + 1 := ⟨_, rfl⟩
        refine lv_iinc (v := x11) (lv' := [(4, .int x11), (0, .ref (h 103)), (1, .int a_b), (2, .int a_c), (3, .int a_d)]) hx hb dX9_copyRow_25 hl (k := 4) rfl (by rw [ex11]; rfl) (by decide) rfl (fun ls hl => ?_)
        obtain ⟨hx11, ax11⟩ := rg_add 1 7 ex11 h5 (rg_k (by decide) : rg 1 1 1) (by decide)
        replace ax11 : x11.toInt = x3_4.toInt + 1 := ax11
        refine lv_goto (tgt := 3) hx hb dX9_copyRow_28 (by decide) ?_
        exact ih x11 _ _ _ _ _ (rg_w hx11 (by decide) : rg 0 7 x11) hR10 hT hS (lv_sub hl [1, 2, 3, 4, 0] rfl) (m_up ax11 hx11 (by decide) hm)
  exact L3_1 _ 0 _ _ _ _ _ (rg_w (rg_k (by decide) : rg 0 0 0) (by decide) : rg 0 7 0) hR hT hS (lv_sub hl [1, 2, 3, 4, 0] rfl) (Nat.lt_succ_self _)

set_option maxRecDepth 100000 in
set_option maxHeartbeats 4000000 in
theorem k_M_copyRow_rN_104_18_0_1t3 {l : Launch} {D : va_G} {h : Nat → Nat} {cz : Nat → ClassId} {i : Nat → Nat → Int32} {g : Nat → Nat → Int64} (hR : Rg rN i) (a_b : Int32) (a_c : Int32) (a_d : Int32) (ha_b : rg 18 18 a_b) (ha_c : rg 0 0 a_c) (ha_d : rg 1 3 a_d) : CtV l yX9_copyRow cX9_copyRow 5 none ({ frames := 0, cells := 0, slots := 0, locals := 0 } : Room) D h cz i g [.ref (h 104), .int a_b, .int a_c, .int a_d] (fun u => Rg rN u.1) := by
  refine k_V pn_X9_copyRow (Nat.le_of_ble_eq_true rfl) ?_
  intro p e s m args below meth c ls Q X hret hT hl hS
  have hx := X.1
  have hb := X.2.1
  have hl : lv_has ls 5 [(0, .ref (h 104)), (1, .int a_b), (2, .int a_c), (3, .int a_d)] := hl
  refine lv_iconst (v := 0) hx hb dX9_copyRow_0 (by decide) ?_
  refine lv_istore (lv' := [(4, .int 0), (0, .ref (h 104)), (1, .int a_b), (2, .int a_c), (3, .int a_d)]) hx hb dX9_copyRow_1 hl (by decide) rfl (fun ls hl => ?_)
  have L3_1 : ∀ (n : Nat) (x3_4 : Int32) (i2 : Nat → Nat → Int32) (g2 : Nat → Nat → Int64) (H : Heap) (locs : List Loc) (ls : Array Slot), rg 0 20 x3_4 → Rg rN i2 → TH D h cz i2 g2 H → va_S (hA h) s.heap H locs → lv_has ls 5 [(0, .ref (h 104)), (1, .int a_b), (2, .int a_c), (3, .int a_d), (4, .int x3_4)] → (20 - x3_4.toInt).toNat < n → W p l e ({ frames := 0, cells := 0, slots := 0, locals := 0 } : Room) s m args below meth c H locs 0 0 Q (F0 m 3 ls []) := by
    intro n
    induction n with
    | zero => intro x3_4 i2 g2 H locs ls hhx3_4 hR2 hT hS hl hm; exact absurd hm (Nat.not_lt_zero _)
    | succ n ih =>
      intro x3_4 i2 g2 H locs ls hhx3_4 hR2 hT hS hl hm
      refine lv_iload hx hb dX9_copyRow_3 (lv_at hl 4 rfl) ?_
      refine lv_iload_n hx hb dX9_copyRow_5 rfl (lv_at hl 1 rfl) ?_
      refine lv_icmp_ge (tgt := 31) hx hb dX9_copyRow_6 (by decide) (fun c3 => ?_) (fun c3 => ?_)
      ·
        have q3 : a_b.toInt ≤ x3_4.toInt := i_le c3
        have h4 : rg 18 20 x3_4 := t_ley 18 20 ha_b hhx3_4 (i_le c3) (by decide)
        exact hret _ _ _ _ _ _ dX9_copyRow_31 hT hS hR2
      ·
        have q3 : x3_4.toInt < a_b.toInt := i_nle c3
        have h5 : rg 0 17 x3_4 := t_ltx 0 17 hhx3_4 ha_b (i_nle c3) (by decide)
        refine lv_aload_n hx hb dX9_copyRow_9 rfl (lv_at hl 0 rfl) ?_
        refine lv_iload_n hx hb dX9_copyRow_10 rfl (lv_at hl 1 rfl) ?_
        refine lv_iload_n hx hb dX9_copyRow_11 rfl (lv_at hl 3 rfl) ?_
        refine q_imul hx hb dX9_copyRow_12 (fun x6 ex6 => ?_)
        obtain ⟨hx6, ax6⟩ := rg_mul 18 54 ex6 ha_b ha_d (by decide)
        refine lv_iload hx hb dX9_copyRow_13 (lv_at hl 4 rfl) ?_
        refine q_iadd hx hb dX9_copyRow_15 (fun x7 ex7 => ?_)
        obtain ⟨hx7, ax7⟩ := rg_add 18 71 ex7 hx6 h5 (by decide)
        refine lv_aload_n hx hb dX9_copyRow_16 rfl (lv_at hl 0 rfl) ?_
        refine lv_iload_n hx hb dX9_copyRow_17 rfl (lv_at hl 1 rfl) ?_
        refine lv_iload_n hx hb dX9_copyRow_18 rfl (lv_at hl 2 rfl) ?_
        refine q_imul hx hb dX9_copyRow_19 (fun x8 ex8 => ?_)
        obtain ⟨hx8, ax8⟩ := rg_mul 0 0 ex8 ha_b ha_c (by decide)
        refine lv_iload hx hb dX9_copyRow_20 (lv_at hl 4 rfl) ?_
        refine q_iadd hx hb dX9_copyRow_22 (fun x9 ex9 => ?_)
        obtain ⟨hx9, ax9⟩ := rg_add 0 17 ex9 hx8 h5 (by decide)
        refine r_iald X hT 104 rfl (by decide) (v_in hx9 (by decide)) dX9_copyRow_23 ?_
        refine r_iast X hT hS 104 rfl (by decide) (v_in hx7 (by decide)) dX9_copyRow_24 (fun H locs i10 ei10 hT hS => ?_)
        have hR10 := Rg_put hR2 ei10 0 0 rfl (Rg_at hR2 104 x9.toNatClampNeg 0 0 (v_lt (v_in hx9 (by decide))) rfl) (by decide)
        obtain ⟨x11, ex11⟩ : ∃ y : Int32, y = x3_4 + 1 := ⟨_, rfl⟩
        refine lv_iinc (v := x11) (lv' := [(4, .int x11), (0, .ref (h 104)), (1, .int a_b), (2, .int a_c), (3, .int a_d)]) hx hb dX9_copyRow_25 hl (k := 4) rfl (by rw [ex11]; rfl) (by decide) rfl (fun ls hl => ?_)
        obtain ⟨hx11, ax11⟩ := rg_add 1 18 ex11 h5 (rg_k (by decide) : rg 1 1 1) (by decide)
        replace ax11 : x11.toInt = x3_4.toInt + 1 := ax11
        refine lv_goto (tgt := 3) hx hb dX9_copyRow_28 (by decide) ?_
        exact ih x11 _ _ _ _ _ (rg_w hx11 (by decide) : rg 0 20 x11) hR10 hT hS (lv_sub hl [1, 2, 3, 4, 0] rfl) (m_up ax11 hx11 (by decide) hm)
  exact L3_1 _ 0 _ _ _ _ _ (rg_w (rg_k (by decide) : rg 0 0 0) (by decide) : rg 0 20 0) hR hT hS (lv_sub hl [1, 2, 3, 4, 0] rfl) (Nat.lt_succ_self _)

set_option maxRecDepth 100000 in
set_option maxHeartbeats 4000000 in
theorem k_M_copyRow_rN_105_20_0_1t3 {l : Launch} {D : va_G} {h : Nat → Nat} {cz : Nat → ClassId} {i : Nat → Nat → Int32} {g : Nat → Nat → Int64} (hR : Rg rN i) (a_b : Int32) (a_c : Int32) (a_d : Int32) (ha_b : rg 20 20 a_b) (ha_c : rg 0 0 a_c) (ha_d : rg 1 3 a_d) : CtV l yX9_copyRow cX9_copyRow 5 none ({ frames := 0, cells := 0, slots := 0, locals := 0 } : Room) D h cz i g [.ref (h 105), .int a_b, .int a_c, .int a_d] (fun u => Rg rN u.1) := by
  refine k_V pn_X9_copyRow (Nat.le_of_ble_eq_true rfl) ?_
  intro p e s m args below meth c ls Q X hret hT hl hS
  have hx := X.1
  have hb := X.2.1
  have hl : lv_has ls 5 [(0, .ref (h 105)), (1, .int a_b), (2, .int a_c), (3, .int a_d)] := hl
  refine lv_iconst (v := 0) hx hb dX9_copyRow_0 (by decide) ?_
  refine lv_istore (lv' := [(4, .int 0), (0, .ref (h 105)), (1, .int a_b), (2, .int a_c), (3, .int a_d)]) hx hb dX9_copyRow_1 hl (by decide) rfl (fun ls hl => ?_)
  have L3_1 : ∀ (n : Nat) (x3_4 : Int32) (i2 : Nat → Nat → Int32) (g2 : Nat → Nat → Int64) (H : Heap) (locs : List Loc) (ls : Array Slot), rg 0 20 x3_4 → Rg rN i2 → TH D h cz i2 g2 H → va_S (hA h) s.heap H locs → lv_has ls 5 [(0, .ref (h 105)), (1, .int a_b), (2, .int a_c), (3, .int a_d), (4, .int x3_4)] → (20 - x3_4.toInt).toNat < n → W p l e ({ frames := 0, cells := 0, slots := 0, locals := 0 } : Room) s m args below meth c H locs 0 0 Q (F0 m 3 ls []) := by
    intro n
    induction n with
    | zero => intro x3_4 i2 g2 H locs ls hhx3_4 hR2 hT hS hl hm; exact absurd hm (Nat.not_lt_zero _)
    | succ n ih =>
      intro x3_4 i2 g2 H locs ls hhx3_4 hR2 hT hS hl hm
      refine lv_iload hx hb dX9_copyRow_3 (lv_at hl 4 rfl) ?_
      refine lv_iload_n hx hb dX9_copyRow_5 rfl (lv_at hl 1 rfl) ?_
      refine lv_icmp_ge (tgt := 31) hx hb dX9_copyRow_6 (by decide) (fun c3 => ?_) (fun c3 => ?_)
      ·
        have q3 : a_b.toInt ≤ x3_4.toInt := i_le c3
        have h4 : rg 20 20 x3_4 := t_ley 20 20 ha_b hhx3_4 (i_le c3) (by decide)
        exact hret _ _ _ _ _ _ dX9_copyRow_31 hT hS hR2
      ·
        have q3 : x3_4.toInt < a_b.toInt := i_nle c3
        have h5 : rg 0 19 x3_4 := t_ltx 0 19 hhx3_4 ha_b (i_nle c3) (by decide)
        refine lv_aload_n hx hb dX9_copyRow_9 rfl (lv_at hl 0 rfl) ?_
        refine lv_iload_n hx hb dX9_copyRow_10 rfl (lv_at hl 1 rfl) ?_
        refine lv_iload_n hx hb dX9_copyRow_11 rfl (lv_at hl 3 rfl) ?_
        refine q_imul hx hb dX9_copyRow_12 (fun x6 ex6 => ?_)
        obtain ⟨hx6, ax6⟩ := rg_mul 20 60 ex6 ha_b ha_d (by decide)
        refine lv_iload hx hb dX9_copyRow_13 (lv_at hl 4 rfl) ?_
        refine q_iadd hx hb dX9_copyRow_15 (fun x7 ex7 => ?_)
        obtain ⟨hx7, ax7⟩ := rg_add 20 79 ex7 hx6 h5 (by decide)
        refine lv_aload_n hx hb dX9_copyRow_16 rfl (lv_at hl 0 rfl) ?_
        refine lv_iload_n hx hb dX9_copyRow_17 rfl (lv_at hl 1 rfl) ?_
        refine lv_iload_n hx hb dX9_copyRow_18 rfl (lv_at hl 2 rfl) ?_
        refine q_imul hx hb dX9_copyRow_19 (fun x8 ex8 => ?_)
        obtain ⟨hx8, ax8⟩ := rg_mul 0 0 ex8 ha_b ha_c (by decide)
        refine lv_iload hx hb dX9_copyRow_20 (lv_at hl 4 rfl) ?_
        refine q_iadd hx hb dX9_copyRow_22 (fun x9 ex9 => ?_)
        obtain ⟨hx9, ax9⟩ := rg_add 0 19 ex9 hx8 h5 (by decide)
        refine r_iald X hT 105 rfl (by decide) (v_in hx9 (by decide)) dX9_copyRow_23 ?_
        refine r_iast X hT hS 105 rfl (by decide) (v_in hx7 (by decide)) dX9_copyRow_24 (fun H locs i10 ei10 hT hS => ?_)
        have hR10 := Rg_put hR2 ei10 0 0 rfl (Rg_at hR2 105 x9.toNatClampNeg 0 0 (v_lt (v_in hx9 (by decide))) rfl) (by decide)
        obtain ⟨x11, ex11⟩ : ∃ y : Int32, y = x3_4 + 1 := ⟨_, rfl⟩
        refine lv_iinc (v := x11) (lv' := [(4, .int x11), (0, .ref (h 105)), (1, .int a_b), (2, .int a_c), (3, .int a_d)]) hx hb dX9_copyRow_25 hl (k := 4) rfl (by rw [ex11]; rfl) (by decide) rfl (fun ls hl => ?_)
        obtain ⟨hx11, ax11⟩ := rg_add 1 20 ex11 h5 (rg_k (by decide) : rg 1 1 1) (by decide)
        replace ax11 : x11.toInt = x3_4.toInt + 1 := ax11
        refine lv_goto (tgt := 3) hx hb dX9_copyRow_28 (by decide) ?_
        exact ih x11 _ _ _ _ _ (rg_w hx11 (by decide) : rg 0 20 x11) hR10 hT hS (lv_sub hl [1, 2, 3, 4, 0] rfl) (m_up ax11 hx11 (by decide) hm)
  exact L3_1 _ 0 _ _ _ _ _ (rg_w (rg_k (by decide) : rg 0 0 0) (by decide) : rg 0 20 0) hR hT hS (lv_sub hl [1, 2, 3, 4, 0] rfl) (Nat.lt_succ_self _)

set_option maxRecDepth 100000 in
set_option maxHeartbeats 4000000 in
theorem k_M_copyRow_rN_106_16_0_1t3 {l : Launch} {D : va_G} {h : Nat → Nat} {cz : Nat → ClassId} {i : Nat → Nat → Int32} {g : Nat → Nat → Int64} (hR : Rg rN i) (a_b : Int32) (a_c : Int32) (a_d : Int32) (ha_b : rg 16 16 a_b) (ha_c : rg 0 0 a_c) (ha_d : rg 1 3 a_d) : CtV l yX9_copyRow cX9_copyRow 5 none ({ frames := 0, cells := 0, slots := 0, locals := 0 } : Room) D h cz i g [.ref (h 106), .int a_b, .int a_c, .int a_d] (fun u => Rg rN u.1) := by
  refine k_V pn_X9_copyRow (Nat.le_of_ble_eq_true rfl) ?_
  intro p e s m args below meth c ls Q X hret hT hl hS
  have hx := X.1
  have hb := X.2.1
  have hl : lv_has ls 5 [(0, .ref (h 106)), (1, .int a_b), (2, .int a_c), (3, .int a_d)] := hl
  refine lv_iconst (v := 0) hx hb dX9_copyRow_0 (by decide) ?_
  refine lv_istore (lv' := [(4, .int 0), (0, .ref (h 106)), (1, .int a_b), (2, .int a_c), (3, .int a_d)]) hx hb dX9_copyRow_1 hl (by decide) rfl (fun ls hl => ?_)
  have L3_1 : ∀ (n : Nat) (x3_4 : Int32) (i2 : Nat → Nat → Int32) (g2 : Nat → Nat → Int64) (H : Heap) (locs : List Loc) (ls : Array Slot), rg 0 20 x3_4 → Rg rN i2 → TH D h cz i2 g2 H → va_S (hA h) s.heap H locs → lv_has ls 5 [(0, .ref (h 106)), (1, .int a_b), (2, .int a_c), (3, .int a_d), (4, .int x3_4)] → (20 - x3_4.toInt).toNat < n → W p l e ({ frames := 0, cells := 0, slots := 0, locals := 0 } : Room) s m args below meth c H locs 0 0 Q (F0 m 3 ls []) := by
    intro n
    induction n with
    | zero => intro x3_4 i2 g2 H locs ls hhx3_4 hR2 hT hS hl hm; exact absurd hm (Nat.not_lt_zero _)
    | succ n ih =>
      intro x3_4 i2 g2 H locs ls hhx3_4 hR2 hT hS hl hm
      refine lv_iload hx hb dX9_copyRow_3 (lv_at hl 4 rfl) ?_
      refine lv_iload_n hx hb dX9_copyRow_5 rfl (lv_at hl 1 rfl) ?_
      refine lv_icmp_ge (tgt := 31) hx hb dX9_copyRow_6 (by decide) (fun c3 => ?_) (fun c3 => ?_)
      ·
        have q3 : a_b.toInt ≤ x3_4.toInt := i_le c3
        have h4 : rg 16 20 x3_4 := t_ley 16 20 ha_b hhx3_4 (i_le c3) (by decide)
        exact hret _ _ _ _ _ _ dX9_copyRow_31 hT hS hR2
      ·
        have q3 : x3_4.toInt < a_b.toInt := i_nle c3
        have h5 : rg 0 15 x3_4 := t_ltx 0 15 hhx3_4 ha_b (i_nle c3) (by decide)
        refine lv_aload_n hx hb dX9_copyRow_9 rfl (lv_at hl 0 rfl) ?_
        refine lv_iload_n hx hb dX9_copyRow_10 rfl (lv_at hl 1 rfl) ?_
        refine lv_iload_n hx hb dX9_copyRow_11 rfl (lv_at hl 3 rfl) ?_
        refine q_imul hx hb dX9_copyRow_12 (fun x6 ex6 => ?_)
        obtain ⟨hx6, ax6⟩ := rg_mul 16 48 ex6 ha_b ha_d (by decide)
        refine lv_iload hx hb dX9_copyRow_13 (lv_at hl 4 rfl) ?_
        refine q_iadd hx hb dX9_copyRow_15 (fun x7 ex7 => ?_)
        obtain ⟨hx7, ax7⟩ := rg_add 16 63 ex7 hx6 h5 (by decide)
        refine lv_aload_n hx hb dX9_copyRow_16 rfl (lv_at hl 0 rfl) ?_
        refine lv_iload_n hx hb dX9_copyRow_17 rfl (lv_at hl 1 rfl) ?_
        refine lv_iload_n hx hb dX9_copyRow_18 rfl (lv_at hl 2 rfl) ?_
        refine q_imul hx hb dX9_copyRow_19 (fun x8 ex8 => ?_)
        obtain ⟨hx8, ax8⟩ := rg_mul 0 0 ex8 ha_b ha_c (by decide)
        refine lv_iload hx hb dX9_copyRow_20 (lv_at hl 4 rfl) ?_
        refine q_iadd hx hb dX9_copyRow_22 (fun x9 ex9 => ?_)
        obtain ⟨hx9, ax9⟩ := rg_add 0 15 ex9 hx8 h5 (by decide)
        refine r_iald X hT 106 rfl (by decide) (v_in hx9 (by decide)) dX9_copyRow_23 ?_
        refine r_iast X hT hS 106 rfl (by decide) (v_in hx7 (by decide)) dX9_copyRow_24 (fun H locs i10 ei10 hT hS => ?_)
        have hR10 := Rg_put hR2 ei10 0 0 rfl (Rg_at hR2 106 x9.toNatClampNeg 0 0 (v_lt (v_in hx9 (by decide))) rfl) (by decide)
        obtain ⟨x11, ex11⟩ : ∃ y : Int32, y = x3_4 + 1 := ⟨_, rfl⟩
        refine lv_iinc (v := x11) (lv' := [(4, .int x11), (0, .ref (h 106)), (1, .int a_b), (2, .int a_c), (3, .int a_d)]) hx hb dX9_copyRow_25 hl (k := 4) rfl (by rw [ex11]; rfl) (by decide) rfl (fun ls hl => ?_)
        obtain ⟨hx11, ax11⟩ := rg_add 1 16 ex11 h5 (rg_k (by decide) : rg 1 1 1) (by decide)
        replace ax11 : x11.toInt = x3_4.toInt + 1 := ax11
        refine lv_goto (tgt := 3) hx hb dX9_copyRow_28 (by decide) ?_
        exact ih x11 _ _ _ _ _ (rg_w hx11 (by decide) : rg 0 20 x11) hR10 hT hS (lv_sub hl [1, 2, 3, 4, 0] rfl) (m_up ax11 hx11 (by decide) hm)
  exact L3_1 _ 0 _ _ _ _ _ (rg_w (rg_k (by decide) : rg 0 0 0) (by decide) : rg 0 20 0) hR hT hS (lv_sub hl [1, 2, 3, 4, 0] rfl) (Nat.lt_succ_self _)

set_option maxRecDepth 100000 in
set_option maxHeartbeats 4000000 in
theorem k_M_copyRow_rN_107_60_0_1t3 {l : Launch} {D : va_G} {h : Nat → Nat} {cz : Nat → ClassId} {i : Nat → Nat → Int32} {g : Nat → Nat → Int64} (hR : Rg rN i) (a_b : Int32) (a_c : Int32) (a_d : Int32) (ha_b : rg 60 60 a_b) (ha_c : rg 0 0 a_c) (ha_d : rg 1 3 a_d) : CtV l yX9_copyRow cX9_copyRow 5 none ({ frames := 0, cells := 0, slots := 0, locals := 0 } : Room) D h cz i g [.ref (h 107), .int a_b, .int a_c, .int a_d] (fun u => Rg rN u.1) := by
  refine k_V pn_X9_copyRow (Nat.le_of_ble_eq_true rfl) ?_
  intro p e s m args below meth c ls Q X hret hT hl hS
  have hx := X.1
  have hb := X.2.1
  have hl : lv_has ls 5 [(0, .ref (h 107)), (1, .int a_b), (2, .int a_c), (3, .int a_d)] := hl
  refine lv_iconst (v := 0) hx hb dX9_copyRow_0 (by decide) ?_
  refine lv_istore (lv' := [(4, .int 0), (0, .ref (h 107)), (1, .int a_b), (2, .int a_c), (3, .int a_d)]) hx hb dX9_copyRow_1 hl (by decide) rfl (fun ls hl => ?_)
  have L3_1 : ∀ (n : Nat) (x3_4 : Int32) (i2 : Nat → Nat → Int32) (g2 : Nat → Nat → Int64) (H : Heap) (locs : List Loc) (ls : Array Slot), rg 0 60 x3_4 → Rg rN i2 → TH D h cz i2 g2 H → va_S (hA h) s.heap H locs → lv_has ls 5 [(0, .ref (h 107)), (1, .int a_b), (2, .int a_c), (3, .int a_d), (4, .int x3_4)] → (60 - x3_4.toInt).toNat < n → W p l e ({ frames := 0, cells := 0, slots := 0, locals := 0 } : Room) s m args below meth c H locs 0 0 Q (F0 m 3 ls []) := by
    intro n
    induction n with
    | zero => intro x3_4 i2 g2 H locs ls hhx3_4 hR2 hT hS hl hm; exact absurd hm (Nat.not_lt_zero _)
    | succ n ih =>
      intro x3_4 i2 g2 H locs ls hhx3_4 hR2 hT hS hl hm
      refine lv_iload hx hb dX9_copyRow_3 (lv_at hl 4 rfl) ?_
      refine lv_iload_n hx hb dX9_copyRow_5 rfl (lv_at hl 1 rfl) ?_
      refine lv_icmp_ge (tgt := 31) hx hb dX9_copyRow_6 (by decide) (fun c3 => ?_) (fun c3 => ?_)
      ·
        have q3 : a_b.toInt ≤ x3_4.toInt := i_le c3
        have h4 : rg 60 60 x3_4 := t_ley 60 60 ha_b hhx3_4 (i_le c3) (by decide)
        exact hret _ _ _ _ _ _ dX9_copyRow_31 hT hS hR2
      ·
        have q3 : x3_4.toInt < a_b.toInt := i_nle c3
        have h5 : rg 0 59 x3_4 := t_ltx 0 59 hhx3_4 ha_b (i_nle c3) (by decide)
        refine lv_aload_n hx hb dX9_copyRow_9 rfl (lv_at hl 0 rfl) ?_
        refine lv_iload_n hx hb dX9_copyRow_10 rfl (lv_at hl 1 rfl) ?_
        refine lv_iload_n hx hb dX9_copyRow_11 rfl (lv_at hl 3 rfl) ?_
        refine q_imul hx hb dX9_copyRow_12 (fun x6 ex6 => ?_)
        obtain ⟨hx6, ax6⟩ := rg_mul 60 180 ex6 ha_b ha_d (by decide)
        refine lv_iload hx hb dX9_copyRow_13 (lv_at hl 4 rfl) ?_
        refine q_iadd hx hb dX9_copyRow_15 (fun x7 ex7 => ?_)
        obtain ⟨hx7, ax7⟩ := rg_add 60 239 ex7 hx6 h5 (by decide)
        refine lv_aload_n hx hb dX9_copyRow_16 rfl (lv_at hl 0 rfl) ?_
        refine lv_iload_n hx hb dX9_copyRow_17 rfl (lv_at hl 1 rfl) ?_
        refine lv_iload_n hx hb dX9_copyRow_18 rfl (lv_at hl 2 rfl) ?_
        refine q_imul hx hb dX9_copyRow_19 (fun x8 ex8 => ?_)
        obtain ⟨hx8, ax8⟩ := rg_mul 0 0 ex8 ha_b ha_c (by decide)
        refine lv_iload hx hb dX9_copyRow_20 (lv_at hl 4 rfl) ?_
        refine q_iadd hx hb dX9_copyRow_22 (fun x9 ex9 => ?_)
        obtain ⟨hx9, ax9⟩ := rg_add 0 59 ex9 hx8 h5 (by decide)
        refine r_iald X hT 107 rfl (by decide) (v_in hx9 (by decide)) dX9_copyRow_23 ?_
        refine r_iast X hT hS 107 rfl (by decide) (v_in hx7 (by decide)) dX9_copyRow_24 (fun H locs i10 ei10 hT hS => ?_)
        have hR10 := Rg_put hR2 ei10 0 0 rfl (Rg_at hR2 107 x9.toNatClampNeg 0 0 (v_lt (v_in hx9 (by decide))) rfl) (by decide)
        obtain ⟨x11, ex11⟩ : ∃ y : Int32, y = x3_4 + 1 := ⟨_, rfl⟩
        refine lv_iinc (v := x11) (lv' := [(4, .int x11), (0, .ref (h 107)), (1, .int a_b), (2, .int a_c), (3, .int a_d)]) hx hb dX9_copyRow_25 hl (k := 4) rfl (by rw [ex11]; rfl) (by decide) rfl (fun ls hl => ?_)
        obtain ⟨hx11, ax11⟩ := rg_add 1 60 ex11 h5 (rg_k (by decide) : rg 1 1 1) (by decide)
        replace ax11 : x11.toInt = x3_4.toInt + 1 := ax11
        refine lv_goto (tgt := 3) hx hb dX9_copyRow_28 (by decide) ?_
        exact ih x11 _ _ _ _ _ (rg_w hx11 (by decide) : rg 0 60 x11) hR10 hT hS (lv_sub hl [1, 2, 3, 4, 0] rfl) (m_up ax11 hx11 (by decide) hm)
  exact L3_1 _ 0 _ _ _ _ _ (rg_w (rg_k (by decide) : rg 0 0 0) (by decide) : rg 0 60 0) hR hT hS (lv_sub hl [1, 2, 3, 4, 0] rfl) (Nat.lt_succ_self _)

set_option maxRecDepth 100000 in
set_option maxHeartbeats 4000000 in
theorem k_M_copyTale_rN_0_1t3 {l : Launch} {D : va_G} {h : Nat → Nat} {cz : Nat → ClassId} {i : Nat → Nat → Int32} {g : Nat → Nat → Int64} (hR : Rg rN i) (a_a : Int32) (a_b : Int32) (ha_a : rg 0 0 a_a) (ha_b : rg 1 3 a_b) : CtV l yX9_copyTale cX9_copyTale 3 none ({ frames := 1, cells := 0, slots := 0, locals := 24 } : Room) D h cz i g [.ref (h 96), .int a_a, .int a_b] (fun u => Rg rN u.1) := by
  refine k_V pn_X9_copyTale (Nat.le_of_ble_eq_true rfl) ?_
  intro p e s m args below meth c ls Q X hret hT hl hS
  have hx := X.1
  have hb := X.2.1
  have hl : lv_has ls 3 [(0, .ref (h 96)), (1, .int a_a), (2, .int a_b)] := hl
  refine lv_aload_n hx hb dX9_copyTale_0 rfl (lv_at hl 0 rfl) ?_
  refine r_getr X hT 96 16 102 fk_9_31 rfl rfl (by decide) dX9_copyTale_1 ?_
  refine lv_iconst (v := 1) hx hb dX9_copyTale_4 (by decide) ?_
  refine lv_iload_n hx hb dX9_copyTale_5 rfl (lv_at hl 1 rfl) ?_
  refine lv_iload_n hx hb dX9_copyTale_6 rfl (lv_at hl 2 rfl) ?_
  refine r_Sv (As := [.ref (h 102), .int 1, .int a_a, .int a_b]) (rest := []) X hT hS (k_M_copyRow_rN_102_1_0_1t3 hR (1) a_a a_b (rg_k (by decide) : rg 1 1 1) ha_a ha_b) sk_X9_copyRow gm_1638 hd_X9_copyRow ⟨rfl, rfl⟩ ⟨Nat.le_of_ble_eq_true rfl, Nat.le_of_ble_eq_true rfl⟩ hl.1 rfl (Nat.le_of_ble_eq_true rfl) dX9_copyTale_7 ⟨Nat.zero_le _, Nat.zero_le _⟩ (fun i1 g1 H locs hq hT hS => ?_)
  have hR1 := hq
  refine lv_aload_n hx hb dX9_copyTale_10 rfl (lv_at hl 0 rfl) ?_
  refine r_getr X hT 96 17 103 fk_9_34 rfl rfl (by decide) dX9_copyTale_11 ?_
  refine lv_bipush (v := 7) hx hb dX9_copyTale_14 (by decide) ?_
  refine lv_iload_n hx hb dX9_copyTale_16 rfl (lv_at hl 1 rfl) ?_
  refine lv_iload_n hx hb dX9_copyTale_17 rfl (lv_at hl 2 rfl) ?_
  refine r_Sv (As := [.ref (h 103), .int 7, .int a_a, .int a_b]) (rest := []) X hT hS (k_M_copyRow_rN_103_7_0_1t3 hR1 (7) a_a a_b (rg_k (by decide) : rg 7 7 7) ha_a ha_b) sk_X9_copyRow gm_1638 hd_X9_copyRow ⟨rfl, rfl⟩ ⟨Nat.le_of_ble_eq_true rfl, Nat.le_of_ble_eq_true rfl⟩ hl.1 rfl (Nat.le_of_ble_eq_true rfl) dX9_copyTale_18 ⟨Nat.zero_le _, Nat.zero_le _⟩ (fun i2 g2 H locs hq hT hS => ?_)
  have hR2 := hq
  refine lv_aload_n hx hb dX9_copyTale_21 rfl (lv_at hl 0 rfl) ?_
  refine r_getr X hT 96 18 104 fk_9_37 rfl rfl (by decide) dX9_copyTale_22 ?_
  refine lv_bipush (v := 18) hx hb dX9_copyTale_25 (by decide) ?_
  refine lv_iload_n hx hb dX9_copyTale_27 rfl (lv_at hl 1 rfl) ?_
  refine lv_iload_n hx hb dX9_copyTale_28 rfl (lv_at hl 2 rfl) ?_
  refine r_Sv (As := [.ref (h 104), .int 18, .int a_a, .int a_b]) (rest := []) X hT hS (k_M_copyRow_rN_104_18_0_1t3 hR2 (18) a_a a_b (rg_k (by decide) : rg 18 18 18) ha_a ha_b) sk_X9_copyRow gm_1638 hd_X9_copyRow ⟨rfl, rfl⟩ ⟨Nat.le_of_ble_eq_true rfl, Nat.le_of_ble_eq_true rfl⟩ hl.1 rfl (Nat.le_of_ble_eq_true rfl) dX9_copyTale_29 ⟨Nat.zero_le _, Nat.zero_le _⟩ (fun i3 g3 H locs hq hT hS => ?_)
  have hR3 := hq
  refine lv_aload_n hx hb dX9_copyTale_32 rfl (lv_at hl 0 rfl) ?_
  refine r_getr X hT 96 19 105 fk_9_40 rfl rfl (by decide) dX9_copyTale_33 ?_
  refine lv_bipush (v := 20) hx hb dX9_copyTale_36 (by decide) ?_
  refine lv_iload_n hx hb dX9_copyTale_38 rfl (lv_at hl 1 rfl) ?_
  refine lv_iload_n hx hb dX9_copyTale_39 rfl (lv_at hl 2 rfl) ?_
  refine r_Sv (As := [.ref (h 105), .int 20, .int a_a, .int a_b]) (rest := []) X hT hS (k_M_copyRow_rN_105_20_0_1t3 hR3 (20) a_a a_b (rg_k (by decide) : rg 20 20 20) ha_a ha_b) sk_X9_copyRow gm_1638 hd_X9_copyRow ⟨rfl, rfl⟩ ⟨Nat.le_of_ble_eq_true rfl, Nat.le_of_ble_eq_true rfl⟩ hl.1 rfl (Nat.le_of_ble_eq_true rfl) dX9_copyTale_40 ⟨Nat.zero_le _, Nat.zero_le _⟩ (fun i4 g4 H locs hq hT hS => ?_)
  have hR4 := hq
  refine lv_aload_n hx hb dX9_copyTale_43 rfl (lv_at hl 0 rfl) ?_
  refine r_getr X hT 96 20 106 fk_9_43 rfl rfl (by decide) dX9_copyTale_44 ?_
  refine lv_bipush (v := 16) hx hb dX9_copyTale_47 (by decide) ?_
  refine lv_iload_n hx hb dX9_copyTale_49 rfl (lv_at hl 1 rfl) ?_
  refine lv_iload_n hx hb dX9_copyTale_50 rfl (lv_at hl 2 rfl) ?_
  refine r_Sv (As := [.ref (h 106), .int 16, .int a_a, .int a_b]) (rest := []) X hT hS (k_M_copyRow_rN_106_16_0_1t3 hR4 (16) a_a a_b (rg_k (by decide) : rg 16 16 16) ha_a ha_b) sk_X9_copyRow gm_1638 hd_X9_copyRow ⟨rfl, rfl⟩ ⟨Nat.le_of_ble_eq_true rfl, Nat.le_of_ble_eq_true rfl⟩ hl.1 rfl (Nat.le_of_ble_eq_true rfl) dX9_copyTale_51 ⟨Nat.zero_le _, Nat.zero_le _⟩ (fun i5 g5 H locs hq hT hS => ?_)
  have hR5 := hq
  refine lv_aload_n hx hb dX9_copyTale_54 rfl (lv_at hl 0 rfl) ?_
  refine r_getr X hT 96 21 107 fk_9_46 rfl rfl (by decide) dX9_copyTale_55 ?_
  refine lv_bipush (v := 60) hx hb dX9_copyTale_58 (by decide) ?_
  refine lv_iload_n hx hb dX9_copyTale_60 rfl (lv_at hl 1 rfl) ?_
  refine lv_iload_n hx hb dX9_copyTale_61 rfl (lv_at hl 2 rfl) ?_
  refine r_Sv (As := [.ref (h 107), .int 60, .int a_a, .int a_b]) (rest := []) X hT hS (k_M_copyRow_rN_107_60_0_1t3 hR5 (60) a_a a_b (rg_k (by decide) : rg 60 60 60) ha_a ha_b) sk_X9_copyRow gm_1638 hd_X9_copyRow ⟨rfl, rfl⟩ ⟨Nat.le_of_ble_eq_true rfl, Nat.le_of_ble_eq_true rfl⟩ hl.1 rfl (Nat.le_of_ble_eq_true rfl) dX9_copyTale_62 ⟨Nat.zero_le _, Nat.zero_le _⟩ (fun i6 g6 H locs hq hT hS => ?_)
  have hR6 := hq
  exact hret _ _ _ _ _ _ dX9_copyTale_65 hT hS hR6

set_option maxRecDepth 100000 in
set_option maxHeartbeats 4000000 in
theorem k_X9_image {l : Launch} {D : va_G} {h : Nat → Nat} {cz : Nat → ClassId} {i : Nat → Nat → Int32} {g : Nat → Nat → Int64} (hR : Rg rN i) (a_a : Int32) : CtI l yX9_image cX9_image 2 (some .int) ({ frames := 2, cells := 0, slots := 0, locals := 46 } : Room) D h cz i g [.ref (h 96), .int a_a] (fun r u => (Rg rN u.1 ∧ r = 0 ∧ rg 0 2 a_a) ∨ (Rg rN u.1 ∧ r = (-2) ∧ (a_a.toInt < 0 ∨ 2 < a_a.toInt))) := by
  refine k_I pn_X9_image (Nat.le_of_ble_eq_true rfl) ?_
  intro p e s m args below meth c ls Q X hret hT hl hS
  have hx := X.1
  have hb := X.2.1
  have hl : lv_has ls 2 [(0, .ref (h 96)), (1, .int a_a)] := hl
  refine lv_aload_n hx hb dX9_image_0 rfl (lv_at hl 0 rfl) ?_
  refine lv_iconst (v := 0) hx hb dX9_image_1 (by decide) ?_
  refine r_puti X hT hS 96 0 pk_9_83 rfl rfl rfl rfl (by decide) dX9_image_2 (fun H locs i1 ei1 hT hS => ?_)
  have hR1 := Rg_put hR ei1 0 0 rfl (rg_k (by decide) : rg 0 0 0) (by decide)
  refine lv_iload_n hx hb dX9_image_5 rfl (lv_at hl 1 rfl) ?_
  refine q_i2l hx hb dX9_image_6 (fun y2 ey2 => ?_)
  obtain ⟨hy2, ay2⟩ := rg_i2l ey2 (rg_top a_a)
  refine lv_lconst (v := 0) hx hb dX9_image_7 (by decide) ?_
  refine lv_ldc2 (v := 2) hx hb X.2.2.2.1 (X.2.2.2.2.1 _ gm_1653) dX9_image_8 ?_
  refine r_Si (As := [.long y2, .long 0, .long 2]) (rest := []) X hT hS (k_in y2 (0) (2)) sk_X9_in gm_1496 hd_X9_in ⟨rfl, rfl⟩ ⟨Nat.le_of_ble_eq_true rfl, Nat.le_of_ble_eq_true rfl⟩ hl.1 rfl (Nat.le_of_ble_eq_true rfl) dX9_image_11 ⟨Nat.zero_le _, Nat.zero_le _⟩ (fun r3 i3 g3 H locs hq hT hS => ?_)
  rcases hq with hq | hq
  ·
    obtain ⟨eh3, rfl, hf3_0⟩ := hq
    rw [(Prod.mk.inj eh3).1, (Prod.mk.inj eh3).2] at hT
    replace hf3_0 : 0 ≤ y2.toInt ∧ y2.toInt ≤ 2 := hf3_0
    have h4 : rgL 0 2 y2 := ⟨by have := hy2.1; have := hy2.2; omega, by have := hy2.1; have := hy2.2; omega⟩
    have h5 : rg 0 2 a_a := ⟨by have := h4.1; omega, by have := h4.2; omega⟩
    refine lv_if_ne (tgt := 20) hx hb dX9_image_14 (by decide) (fun c6 => ?_) (fun c6 => (x_eq (rg_k (by decide) : rg 1 1 1) (rg_k (by decide) : rg 0 0 0) (i_eq c6) (by decide)).elim)
    refine lv_aload_n hx hb dX9_image_20 rfl (lv_at hl 0 rfl) ?_
    refine lv_iconst (v := 0) hx hb dX9_image_21 (by decide) ?_
    refine lv_iconst (v := 1) hx hb dX9_image_22 (by decide) ?_
    refine lv_iload_n hx hb dX9_image_23 rfl (lv_at hl 1 rfl) ?_
    refine q_iadd hx hb dX9_image_24 (fun x7 ex7 => ?_)
    obtain ⟨hx7, ax7⟩ := rg_add 1 3 ex7 (rg_k (by decide) : rg 1 1 1) h5 (by decide)
    replace ax7 : x7.toInt = 1 + a_a.toInt := ax7
    refine r_Vv (As := [.int 0, .int x7]) (rest := []) X hT hS (k_M_copyTale_rN_0_1t3 hR1 (0) x7 (rg_k (by decide) : rg 0 0 0) hx7) mk_X9_copyTale gm_1634 rfl rfl (by decide) hd_X9_copyTale ⟨rfl, rfl⟩ ⟨Nat.le_of_ble_eq_true rfl, Nat.le_of_ble_eq_true rfl⟩ hl.1 rfl (Nat.le_of_ble_eq_true rfl) dX9_image_25 ⟨Nat.zero_le _, Nat.zero_le _⟩ (fun i8 g8 H locs hq hT hS => ?_)
    have hR8 := hq
    refine lv_aload_n hx hb dX9_image_28 rfl (lv_at hl 0 rfl) ?_
    refine r_getr X hT 96 22 108 fk_9_49 rfl rfl (by decide) dX9_image_29 ?_
    refine lv_iload_n hx hb dX9_image_32 rfl (lv_at hl 1 rfl) ?_
    refine lv_iconst (v := 1) hx hb dX9_image_33 (by decide) ?_
    refine r_zast X hT hS 108 rfl (by decide) (v_in h5 (by decide)) dX9_image_34 (fun H locs i9 ei9 hT hS => ?_)
    replace ei9 : i9 = up2 i8 108 a_a.toNatClampNeg 1 := ei9
    have hR9 := Rg_put hR8 ei9 0 1 rfl (rg_k (by decide) : rg 1 1 1) (by decide)
    refine lv_iconst (v := 0) hx hb dX9_image_35 (by decide) ?_
    exact hret 0 _ _ _ _ _ _ dX9_image_36 hT hS (Or.inl ⟨hR9, rfl, h5⟩)
  ·
    obtain ⟨eh3, rfl, hf3_0⟩ := hq
    rw [(Prod.mk.inj eh3).1, (Prod.mk.inj eh3).2] at hT
    replace hf3_0 : y2.toInt < 0 ∨ 2 < y2.toInt := hf3_0
    refine lv_if_ne (tgt := 20) hx hb dX9_image_14 (by decide) (fun c10 => (x_ne (rg_k (by decide) : rg 0 0 0) (rg_k (by decide) : rg 0 0 0) (i_ne c10) (by decide)).elim) (fun c10 => ?_)
    refine lv_bipush (v := (-2)) hx hb dX9_image_17 (by decide) ?_
    exact hret (-2) _ _ _ _ _ _ dX9_image_19 hT hS (Or.inr ⟨hR1, rfl, (by omega)⟩)

set_option maxRecDepth 100000 in
set_option maxHeartbeats 4000000 in
theorem k_X9_back {l : Launch} {D : va_G} {h : Nat → Nat} {cz : Nat → ClassId} {i : Nat → Nat → Int32} {g : Nat → Nat → Int64} (hR : Rg rM i) (a_a : Int32) : CtI l yX9_back cX9_back 2 (some .int) ({ frames := 1, cells := 0, slots := 0, locals := 25 } : Room) D h cz i g [.ref (h 96), .int a_a] (fun r u => (Rg rM u.1 ∧ r = (-6) ∧ rg 0 2 a_a) ∨ (Rg rM u.1 ∧ r = (-2) ∧ (a_a.toInt < 0 ∨ 2 < a_a.toInt))) := by
  refine k_I pn_X9_back (Nat.le_of_ble_eq_true rfl) ?_
  intro p e s m args below meth c ls Q X hret hT hl hS
  have hx := X.1
  have hb := X.2.1
  have hl : lv_has ls 2 [(0, .ref (h 96)), (1, .int a_a)] := hl
  refine lv_aload_n hx hb dX9_back_0 rfl (lv_at hl 0 rfl) ?_
  refine lv_iconst (v := 0) hx hb dX9_back_1 (by decide) ?_
  refine r_puti X hT hS 96 0 pk_9_83 rfl rfl rfl rfl (by decide) dX9_back_2 (fun H locs i1 ei1 hT hS => ?_)
  have hR1 := Rg_put hR ei1 0 0 rfl (rg_k (by decide) : rg 0 0 0) (by decide)
  refine lv_iload_n hx hb dX9_back_5 rfl (lv_at hl 1 rfl) ?_
  refine q_i2l hx hb dX9_back_6 (fun y2 ey2 => ?_)
  obtain ⟨hy2, ay2⟩ := rg_i2l ey2 (rg_top a_a)
  refine lv_lconst (v := 0) hx hb dX9_back_7 (by decide) ?_
  refine lv_ldc2 (v := 2) hx hb X.2.2.2.1 (X.2.2.2.2.1 _ gm_1653) dX9_back_8 ?_
  refine r_Si (As := [.long y2, .long 0, .long 2]) (rest := []) X hT hS (k_in y2 (0) (2)) sk_X9_in gm_1496 hd_X9_in ⟨rfl, rfl⟩ ⟨Nat.le_of_ble_eq_true rfl, Nat.le_of_ble_eq_true rfl⟩ hl.1 rfl (Nat.le_of_ble_eq_true rfl) dX9_back_11 ⟨Nat.zero_le _, Nat.zero_le _⟩ (fun r3 i3 g3 H locs hq hT hS => ?_)
  rcases hq with hq | hq
  ·
    obtain ⟨eh3, rfl, hf3_0⟩ := hq
    rw [(Prod.mk.inj eh3).1, (Prod.mk.inj eh3).2] at hT
    replace hf3_0 : 0 ≤ y2.toInt ∧ y2.toInt ≤ 2 := hf3_0
    have h4 : rgL 0 2 y2 := ⟨by have := hy2.1; have := hy2.2; omega, by have := hy2.1; have := hy2.2; omega⟩
    have h5 : rg 0 2 a_a := ⟨by have := h4.1; omega, by have := h4.2; omega⟩
    refine lv_if_ne (tgt := 20) hx hb dX9_back_14 (by decide) (fun c6 => ?_) (fun c6 => (x_eq (rg_k (by decide) : rg 1 1 1) (rg_k (by decide) : rg 0 0 0) (i_eq c6) (by decide)).elim)
    refine lv_aload_n hx hb dX9_back_20 rfl (lv_at hl 0 rfl) ?_
    refine r_getr X hT 96 22 108 fk_9_49 rfl rfl (by decide) dX9_back_21 ?_
    refine lv_iload_n hx hb dX9_back_24 rfl (lv_at hl 1 rfl) ?_
    refine r_zald X hT 108 rfl (by decide) (v_in h5 (by decide)) dX9_back_25 ?_
    refine lv_if_ne (tgt := 32) hx hb dX9_back_26 (by decide) (fun c7 => (x_ne (Rg_at hR1 108 a_a.toNatClampNeg 0 0 (v_lt (v_in h5 (by decide))) rfl) (rg_k (by decide) : rg 0 0 0) (i_ne c7) (by decide)).elim) (fun c7 => ?_)
    have q7 : (i1 108 a_a.toNatClampNeg).toInt = 0 := i_eq c7
    refine lv_bipush (v := (-6)) hx hb dX9_back_29 (by decide) ?_
    exact hret (-6) _ _ _ _ _ _ dX9_back_31 hT hS (Or.inl ⟨hR1, rfl, h5⟩)
  ·
    obtain ⟨eh3, rfl, hf3_0⟩ := hq
    rw [(Prod.mk.inj eh3).1, (Prod.mk.inj eh3).2] at hT
    replace hf3_0 : y2.toInt < 0 ∨ 2 < y2.toInt := hf3_0
    refine lv_if_ne (tgt := 20) hx hb dX9_back_14 (by decide) (fun c8 => (x_ne (rg_k (by decide) : rg 0 0 0) (rg_k (by decide) : rg 0 0 0) (i_ne c8) (by decide)).elim) (fun c8 => ?_)
    refine lv_bipush (v := (-2)) hx hb dX9_back_17 (by decide) ?_
    exact hret (-2) _ _ _ _ _ _ dX9_back_19 hT hS (Or.inr ⟨hR1, rfl, (by omega)⟩)

set_option maxRecDepth 100000 in
set_option maxHeartbeats 4000000 in
theorem k_X9_row {l : Launch} {D : va_G} {h : Nat → Nat} {cz : Nat → ClassId} {i : Nat → Nat → Int32} {g : Nat → Nat → Int64} (hR : Rg rN i) (a_a : Int32) (a_b : Int32) (a_c : Int32) : CtI l yX9_row cX9_row 5 (some .int) ({ frames := 2, cells := 0, slots := 0, locals := 45 } : Room) D h cz i g [.ref (h 96), .int a_a, .int a_b, .int a_c] (fun r u => (Rg rN u.1 ∧ r = 0 ∧ ((0 ≤ a_a.toInt ∧ a_a.toInt ≤ 3) ∧ (0 ≤ a_b.toInt ∧ a_b.toInt ≤ 3) ∧ 0 ≤ a_c.toInt ∧ a_c.toInt ≤ 60)) ∨ (Rg rN u.1 ∧ r = (-3) ∧ ((0 ≤ a_a.toInt ∧ a_a.toInt ≤ 3) ∧ (0 ≤ a_b.toInt ∧ a_b.toInt ≤ 3) ∧ a_c.toInt < 0)) ∨ (Rg rN u.1 ∧ r = (-2) ∧ ((a_a.toInt < 0 ∨ 3 < a_a.toInt) ∨ (a_b.toInt < 0 ∨ 3 < a_b.toInt) ∨ 60 < a_c.toInt))) := by
  refine k_I pn_X9_row (Nat.le_of_ble_eq_true rfl) ?_
  intro p e s m args below meth c ls Q X hret hT hl hS
  have hx := X.1
  have hb := X.2.1
  have hl : lv_has ls 5 [(0, .ref (h 96)), (1, .int a_a), (2, .int a_b), (3, .int a_c)] := hl
  refine lv_aload_n hx hb dX9_row_0 rfl (lv_at hl 0 rfl) ?_
  refine lv_iconst (v := 0) hx hb dX9_row_1 (by decide) ?_
  refine r_puti X hT hS 96 0 pk_9_83 rfl rfl rfl rfl (by decide) dX9_row_2 (fun H locs i1 ei1 hT hS => ?_)
  have hR1 := Rg_put hR ei1 0 0 rfl (rg_k (by decide) : rg 0 0 0) (by decide)
  refine lv_iload_n hx hb dX9_row_5 rfl (lv_at hl 1 rfl) ?_
  refine r_Si (As := [.int a_a]) (rest := []) X hT hS (k_M_isSlot a_a) sk_X9_isSlot gm_1492 hd_X9_isSlot ⟨rfl, rfl⟩ ⟨Nat.le_of_ble_eq_true rfl, Nat.le_of_ble_eq_true rfl⟩ hl.1 rfl (Nat.le_of_ble_eq_true rfl) dX9_row_6 ⟨Nat.zero_le _, Nat.zero_le _⟩ (fun r2 i2 g2 H locs hq hT hS => ?_)
  rcases hq with hq | hq
  ·
    obtain ⟨eh2, rfl, hf2_0⟩ := hq
    rw [(Prod.mk.inj eh2).1, (Prod.mk.inj eh2).2] at hT
    have h3 : rg 0 3 a_a := ⟨by have := (rg_top a_a).1; have := hf2_0.1; omega, by have := (rg_top a_a).2; have := hf2_0.2; omega⟩
    refine lv_if_eq (tgt := 30) hx hb dX9_row_9 (by decide) (fun c4 => (x_eq (rg_k (by decide) : rg 1 1 1) (rg_k (by decide) : rg 0 0 0) (i_eq c4) (by decide)).elim) (fun c4 => ?_)
    refine lv_iload_n hx hb dX9_row_12 rfl (lv_at hl 2 rfl) ?_
    refine q_i2l hx hb dX9_row_13 (fun y5 ey5 => ?_)
    obtain ⟨hy5, ay5⟩ := rg_i2l ey5 (rg_top a_b)
    refine lv_lconst (v := 0) hx hb dX9_row_14 (by decide) ?_
    refine lv_ldc2 (v := 3) hx hb X.2.2.2.1 (X.2.2.2.2.1 _ gm_1495) dX9_row_15 ?_
    refine r_Si (As := [.long y5, .long 0, .long 3]) (rest := []) X hT hS (k_in y5 (0) (3)) sk_X9_in gm_1496 hd_X9_in ⟨rfl, rfl⟩ ⟨Nat.le_of_ble_eq_true rfl, Nat.le_of_ble_eq_true rfl⟩ hl.1 rfl (Nat.le_of_ble_eq_true rfl) dX9_row_18 ⟨Nat.zero_le _, Nat.zero_le _⟩ (fun r6 i6 g6 H locs hq hT hS => ?_)
    rcases hq with hq | hq
    ·
      obtain ⟨eh6, rfl, hf6_0⟩ := hq
      rw [(Prod.mk.inj eh6).1, (Prod.mk.inj eh6).2] at hT
      replace hf6_0 : 0 ≤ y5.toInt ∧ y5.toInt ≤ 3 := hf6_0
      have h7 : rgL 0 3 y5 := ⟨by have := hy5.1; have := hy5.2; omega, by have := hy5.1; have := hy5.2; omega⟩
      have h8 : rg 0 3 a_b := ⟨by have := h7.1; omega, by have := h7.2; omega⟩
      refine lv_if_eq (tgt := 30) hx hb dX9_row_21 (by decide) (fun c9 => (x_eq (rg_k (by decide) : rg 1 1 1) (rg_k (by decide) : rg 0 0 0) (i_eq c9) (by decide)).elim) (fun c9 => ?_)
      refine lv_iload_n hx hb dX9_row_24 rfl (lv_at hl 3 rfl) ?_
      refine lv_bipush (v := 60) hx hb dX9_row_25 (by decide) ?_
      refine lv_icmp_le (tgt := 33) hx hb dX9_row_27 (by decide) (fun c10 => ?_) (fun c10 => ?_)
      ·
        have q10 : a_c.toInt ≤ 60 := i_le c10
        have h11 : rg (-2147483648) 60 a_c := t_lex (-2147483648) 60 (rg_top a_c) (rg_k (by decide) : rg 60 60 60) (i_le c10) (by decide)
        refine lv_iload_n hx hb dX9_row_33 rfl (lv_at hl 3 rfl) ?_
        refine lv_if_ge (tgt := 40) hx hb dX9_row_34 (by decide) (fun c12 => ?_) (fun c12 => ?_)
        ·
          have q12 : 0 ≤ a_c.toInt := i_le c12
          have h13 : rg 0 60 a_c := t_ley 0 60 (rg_k (by decide) : rg 0 0 0) h11 (i_le c12) (by decide)
          refine lv_aload_n hx hb dX9_row_40 rfl (lv_at hl 0 rfl) ?_
          refine r_getr X hT 96 1 97 fk_9_7 rfl rfl (by decide) dX9_row_41 ?_
          refine lv_iload_n hx hb dX9_row_44 rfl (lv_at hl 1 rfl) ?_
          refine lv_iload_n hx hb dX9_row_45 rfl (lv_at hl 2 rfl) ?_
          refine r_iast X hT hS 97 rfl (by decide) (v_in h3 (by decide)) dX9_row_46 (fun H locs i14 ei14 hT hS => ?_)
          have hR14 := Rg_put hR1 ei14 (-1) 3 rfl h8 (by decide)
          refine lv_aload_n hx hb dX9_row_47 rfl (lv_at hl 0 rfl) ?_
          refine r_getr X hT 96 2 98 fk_9_13 rfl rfl (by decide) dX9_row_48 ?_
          refine lv_iload_n hx hb dX9_row_51 rfl (lv_at hl 1 rfl) ?_
          refine lv_iload_n hx hb dX9_row_52 rfl (lv_at hl 3 rfl) ?_
          refine r_iast X hT hS 98 rfl (by decide) (v_in h3 (by decide)) dX9_row_53 (fun H locs i15 ei15 hT hS => ?_)
          have hR15 := Rg_put hR14 ei15 0 60 rfl h13 (by decide)
          refine lv_iconst (v := 0) hx hb dX9_row_54 (by decide) ?_
          refine lv_istore (lv' := [(4, .int 0), (0, .ref (h 96)), (1, .int a_a), (2, .int a_b), (3, .int a_c)]) hx hb dX9_row_55 hl (by decide) rfl (fun ls hl => ?_)
          have L57_16 : ∀ (n : Nat) (x57_4 : Int32) (i17 : Nat → Nat → Int32) (g17 : Nat → Nat → Int64) (H : Heap) (locs : List Loc) (ls : Array Slot), rg 0 60 x57_4 → Rg rN i17 → TH D h cz i17 g17 H → va_S (hA h) s.heap H locs → lv_has ls 5 [(0, .ref (h 96)), (1, .int a_a), (3, .int a_c), (4, .int x57_4)] → (60 - x57_4.toInt).toNat < n → W p l e ({ frames := 2, cells := 0, slots := 0, locals := 45 } : Room) s m args below meth c H locs 0 0 Q (F0 m 57 ls []) := by
            intro n
            induction n with
            | zero => intro x57_4 i17 g17 H locs ls hhx57_4 hR17 hT hS hl hm; exact absurd hm (Nat.not_lt_zero _)
            | succ n ih =>
              intro x57_4 i17 g17 H locs ls hhx57_4 hR17 hT hS hl hm
              refine lv_iload hx hb dX9_row_57 (lv_at hl 3 rfl) ?_
              refine lv_iload_n hx hb dX9_row_59 rfl (lv_at hl 2 rfl) ?_
              refine lv_icmp_ge (tgt := 82) hx hb dX9_row_60 (by decide) (fun c18 => ?_) (fun c18 => ?_)
              ·
                have q18 : a_c.toInt ≤ x57_4.toInt := i_le c18
                refine lv_iconst (v := 0) hx hb dX9_row_82 (by decide) ?_
                exact hret 0 _ _ _ _ _ _ dX9_row_83 hT hS (Or.inl ⟨hR17, rfl, (by have := h3.1; have := h3.2; have := h8.1; have := h8.2; have := h13.1; have := h13.2; omega)⟩)
              ·
                have q18 : x57_4.toInt < a_c.toInt := i_nle c18
                have h19 : rg 0 59 x57_4 := t_ltx 0 59 hhx57_4 h13 (i_nle c18) (by decide)
                have h20 : rg 1 60 a_c := t_lty 1 60 hhx57_4 h13 (i_nle c18) (by decide)
                refine lv_aload_n hx hb dX9_row_63 rfl (lv_at hl 0 rfl) ?_
                refine r_getr X hT 96 3 99 fk_9_16 rfl rfl (by decide) dX9_row_64 ?_
                refine lv_bipush (v := 60) hx hb dX9_row_67 (by decide) ?_
                refine lv_iload_n hx hb dX9_row_69 rfl (lv_at hl 1 rfl) ?_
                refine q_imul hx hb dX9_row_70 (fun x21 ex21 => ?_)
                obtain ⟨hx21, ax21⟩ := rg_mul 0 180 ex21 (rg_k (by decide) : rg 60 60 60) h3 (by decide)
                replace ax21 : x21.toInt = 60 * a_a.toInt := ax21
                refine lv_iload hx hb dX9_row_71 (lv_at hl 3 rfl) ?_
                refine q_iadd hx hb dX9_row_73 (fun x22 ex22 => ?_)
                obtain ⟨hx22, ax22⟩ := rg_add 0 239 ex22 hx21 h19 (by decide)
                refine lv_lconst (v := 0) hx hb dX9_row_74 (by decide) ?_
                refine r_last X hT hS 99 rfl (by decide) (v_in hx22 (by decide)) dX9_row_75 (fun H locs g23 eg23 hT hS => ?_)
                obtain ⟨x24, ex24⟩ : ∃ y : Int32, y = x57_4 + 1 := ⟨_, rfl⟩
                refine lv_iinc (v := x24) (lv' := [(4, .int x24), (0, .ref (h 96)), (1, .int a_a), (3, .int a_c)]) hx hb dX9_row_76 hl (k := 3) rfl (by rw [ex24]; rfl) (by decide) rfl (fun ls hl => ?_)
                obtain ⟨hx24, ax24⟩ := rg_add 1 60 ex24 h19 (rg_k (by decide) : rg 1 1 1) (by decide)
                replace ax24 : x24.toInt = x57_4.toInt + 1 := ax24
                refine lv_goto (tgt := 57) hx hb dX9_row_79 (by decide) ?_
                exact ih x24 _ _ _ _ _ (rg_w hx24 (by decide) : rg 0 60 x24) hR17 hT hS (lv_sub hl [1, 2, 3, 0] rfl) (m_up ax24 hx24 (by decide) hm)
          exact L57_16 _ 0 _ _ _ _ _ (rg_w (rg_k (by decide) : rg 0 0 0) (by decide) : rg 0 60 0) hR15 hT hS (lv_sub hl [1, 2, 4, 0] rfl) (Nat.lt_succ_self _)
        ·
          have q12 : a_c.toInt < 0 := i_nle c12
          have h25 : rg (-2147483648) (-1) a_c := t_ltx (-2147483648) (-1) h11 (rg_k (by decide) : rg 0 0 0) (i_nle c12) (by decide)
          refine lv_bipush (v := (-3)) hx hb dX9_row_37 (by decide) ?_
          exact hret (-3) _ _ _ _ _ _ dX9_row_39 hT hS (Or.inr (Or.inl ⟨hR1, rfl, (by have := h3.1; have := h3.2; have := h8.1; have := h8.2; have := h25.1; have := h25.2; omega)⟩))
      ·
        have q10 : 60 < a_c.toInt := i_nle c10
        have h26 : rg 61 2147483647 a_c := t_lty 61 2147483647 (rg_k (by decide) : rg 60 60 60) (rg_top a_c) (i_nle c10) (by decide)
        refine lv_bipush (v := (-2)) hx hb dX9_row_30 (by decide) ?_
        exact hret (-2) _ _ _ _ _ _ dX9_row_32 hT hS (Or.inr (Or.inr ⟨hR1, rfl, (by have := h3.1; have := h3.2; have := h8.1; have := h8.2; have := h26.1; have := h26.2; omega)⟩))
    ·
      obtain ⟨eh6, rfl, hf6_0⟩ := hq
      rw [(Prod.mk.inj eh6).1, (Prod.mk.inj eh6).2] at hT
      replace hf6_0 : y5.toInt < 0 ∨ 3 < y5.toInt := hf6_0
      refine lv_if_eq (tgt := 30) hx hb dX9_row_21 (by decide) (fun c27 => ?_) (fun c27 => (x_ne (rg_k (by decide) : rg 0 0 0) (rg_k (by decide) : rg 0 0 0) (i_ne c27) (by decide)).elim)
      refine lv_bipush (v := (-2)) hx hb dX9_row_30 (by decide) ?_
      exact hret (-2) _ _ _ _ _ _ dX9_row_32 hT hS (Or.inr (Or.inr ⟨hR1, rfl, (by have := h3.1; have := h3.2; omega)⟩))
  ·
    obtain ⟨eh2, rfl, hf2_0⟩ := hq
    rw [(Prod.mk.inj eh2).1, (Prod.mk.inj eh2).2] at hT
    refine lv_if_eq (tgt := 30) hx hb dX9_row_9 (by decide) (fun c28 => ?_) (fun c28 => (x_ne (rg_k (by decide) : rg 0 0 0) (rg_k (by decide) : rg 0 0 0) (i_ne c28) (by decide)).elim)
    refine lv_bipush (v := (-2)) hx hb dX9_row_30 (by decide) ?_
    exact hret (-2) _ _ _ _ _ _ dX9_row_32 hT hS (Or.inr (Or.inr ⟨hR1, rfl, (by omega)⟩))

set_option maxRecDepth 100000 in
set_option maxHeartbeats 4000000 in
theorem k_X9_write {l : Launch} {D : va_G} {h : Nat → Nat} {cz : Nat → ClassId} {i : Nat → Nat → Int32} {g : Nat → Nat → Int64} (hR : Rg rM i) (a_a : Int32) (a_b : Int32) (a_c : Int64) : CtI l yX9_write cX9_write 5 (some .int) ({ frames := 2, cells := 0, slots := 0, locals := 45 } : Room) D h cz i g [.ref (h 96), .int a_a, .int a_b, .long a_c] (fun r u => (Rg rM u.1 ∧ r = (-6) ∧ rg 0 3 a_a) ∨ (Rg rM u.1 ∧ r = (-2) ∧ (a_a.toInt < 0 ∨ 3 < a_a.toInt))) := by
  refine k_I pn_X9_write (Nat.le_of_ble_eq_true rfl) ?_
  intro p e s m args below meth c ls Q X hret hT hl hS
  have hx := X.1
  have hb := X.2.1
  have hl : lv_has ls 5 [(0, .ref (h 96)), (1, .int a_a), (2, .int a_b), (3, .long a_c)] := hl
  refine lv_aload_n hx hb dX9_write_0 rfl (lv_at hl 0 rfl) ?_
  refine lv_iconst (v := 0) hx hb dX9_write_1 (by decide) ?_
  refine r_puti X hT hS 96 0 pk_9_83 rfl rfl rfl rfl (by decide) dX9_write_2 (fun H locs i1 ei1 hT hS => ?_)
  have hR1 := Rg_put hR ei1 0 0 rfl (rg_k (by decide) : rg 0 0 0) (by decide)
  refine lv_iload_n hx hb dX9_write_5 rfl (lv_at hl 1 rfl) ?_
  refine r_Si (As := [.int a_a]) (rest := []) X hT hS (k_M_isSlot a_a) sk_X9_isSlot gm_1492 hd_X9_isSlot ⟨rfl, rfl⟩ ⟨Nat.le_of_ble_eq_true rfl, Nat.le_of_ble_eq_true rfl⟩ hl.1 rfl (Nat.le_of_ble_eq_true rfl) dX9_write_6 ⟨Nat.zero_le _, Nat.zero_le _⟩ (fun r2 i2 g2 H locs hq hT hS => ?_)
  rcases hq with hq | hq
  ·
    obtain ⟨eh2, rfl, hf2_0⟩ := hq
    rw [(Prod.mk.inj eh2).1, (Prod.mk.inj eh2).2] at hT
    have h3 : rg 0 3 a_a := ⟨by have := (rg_top a_a).1; have := hf2_0.1; omega, by have := (rg_top a_a).2; have := hf2_0.2; omega⟩
    refine lv_if_ne (tgt := 15) hx hb dX9_write_9 (by decide) (fun c4 => ?_) (fun c4 => (x_eq (rg_k (by decide) : rg 1 1 1) (rg_k (by decide) : rg 0 0 0) (i_eq c4) (by decide)).elim)
    refine lv_aload_n hx hb dX9_write_15 rfl (lv_at hl 0 rfl) ?_
    refine r_getr X hT 96 1 97 fk_9_7 rfl rfl (by decide) dX9_write_16 ?_
    refine lv_iload_n hx hb dX9_write_19 rfl (lv_at hl 1 rfl) ?_
    refine r_iald X hT 97 rfl (by decide) (v_in h3 (by decide)) dX9_write_20 ?_
    refine lv_iconst (v := (-1)) hx hb dX9_write_21 (by decide) ?_
    refine lv_icmp_ne (tgt := 28) hx hb dX9_write_22 (by decide) (fun c5 => (x_ne (Rg_at hR1 97 a_a.toNatClampNeg (-1) (-1) (v_lt (v_in h3 (by decide))) rfl) (rg_k (by decide) : rg (-1) (-1) (-1)) (i_ne c5) (by decide)).elim) (fun c5 => ?_)
    have q5 : (i1 97 a_a.toNatClampNeg).toInt = (-1) := i_eq c5
    refine lv_bipush (v := (-6)) hx hb dX9_write_25 (by decide) ?_
    exact hret (-6) _ _ _ _ _ _ dX9_write_27 hT hS (Or.inl ⟨hR1, rfl, h3⟩)
  ·
    obtain ⟨eh2, rfl, hf2_0⟩ := hq
    rw [(Prod.mk.inj eh2).1, (Prod.mk.inj eh2).2] at hT
    refine lv_if_ne (tgt := 15) hx hb dX9_write_9 (by decide) (fun c6 => (x_ne (rg_k (by decide) : rg 0 0 0) (rg_k (by decide) : rg 0 0 0) (i_ne c6) (by decide)).elim) (fun c6 => ?_)
    refine lv_bipush (v := (-2)) hx hb dX9_write_12 (by decide) ?_
    exact hret (-2) _ _ _ _ _ _ dX9_write_14 hT hS (Or.inr ⟨hR1, rfl, (by omega)⟩)

set_option maxRecDepth 100000 in
set_option maxHeartbeats 4000000 in
theorem k_X9_paste {l : Launch} {D : va_G} {h : Nat → Nat} {cz : Nat → ClassId} {i : Nat → Nat → Int32} {g : Nat → Nat → Int64} (hR : Rg rM i) (a_a : Int32) (a_b : Int32) (a_c : Int32) (a_d : Int32) (a_e : Int32) : CtI l yX9_paste cX9_paste 7 (some .int) ({ frames := 2, cells := 0, slots := 0, locals := 45 } : Room) D h cz i g [.ref (h 96), .int a_a, .int a_b, .int a_c, .int a_d, .int a_e] (fun r u => (Rg rM u.1 ∧ r = (-6) ∧ ((0 ≤ a_a.toInt ∧ a_a.toInt ≤ 3) ∧ (0 ≤ a_c.toInt ∧ a_c.toInt ≤ 3))) ∨ (Rg rM u.1 ∧ r = (-2) ∧ ((a_a.toInt < 0 ∨ 3 < a_a.toInt) ∨ (a_c.toInt < 0 ∨ 3 < a_c.toInt)))) := by
  refine k_I pn_X9_paste (Nat.le_of_ble_eq_true rfl) ?_
  intro p e s m args below meth c ls Q X hret hT hl hS
  have hx := X.1
  have hb := X.2.1
  have hl : lv_has ls 7 [(0, .ref (h 96)), (1, .int a_a), (2, .int a_b), (3, .int a_c), (4, .int a_d), (5, .int a_e)] := hl
  refine lv_aload_n hx hb dX9_paste_0 rfl (lv_at hl 0 rfl) ?_
  refine lv_iconst (v := 0) hx hb dX9_paste_1 (by decide) ?_
  refine r_puti X hT hS 96 0 pk_9_83 rfl rfl rfl rfl (by decide) dX9_paste_2 (fun H locs i1 ei1 hT hS => ?_)
  have hR1 := Rg_put hR ei1 0 0 rfl (rg_k (by decide) : rg 0 0 0) (by decide)
  refine lv_iload_n hx hb dX9_paste_5 rfl (lv_at hl 1 rfl) ?_
  refine r_Si (As := [.int a_a]) (rest := []) X hT hS (k_M_isSlot a_a) sk_X9_isSlot gm_1492 hd_X9_isSlot ⟨rfl, rfl⟩ ⟨Nat.le_of_ble_eq_true rfl, Nat.le_of_ble_eq_true rfl⟩ hl.1 rfl (Nat.le_of_ble_eq_true rfl) dX9_paste_6 ⟨Nat.zero_le _, Nat.zero_le _⟩ (fun r2 i2 g2 H locs hq hT hS => ?_)
  rcases hq with hq | hq
  ·
    obtain ⟨eh2, rfl, hf2_0⟩ := hq
    rw [(Prod.mk.inj eh2).1, (Prod.mk.inj eh2).2] at hT
    have h3 : rg 0 3 a_a := ⟨by have := (rg_top a_a).1; have := hf2_0.1; omega, by have := (rg_top a_a).2; have := hf2_0.2; omega⟩
    refine lv_if_eq (tgt := 19) hx hb dX9_paste_9 (by decide) (fun c4 => (x_eq (rg_k (by decide) : rg 1 1 1) (rg_k (by decide) : rg 0 0 0) (i_eq c4) (by decide)).elim) (fun c4 => ?_)
    refine lv_iload_n hx hb dX9_paste_12 rfl (lv_at hl 3 rfl) ?_
    refine r_Si (As := [.int a_c]) (rest := []) X hT hS (k_M_isSlot a_c) sk_X9_isSlot gm_1492 hd_X9_isSlot ⟨rfl, rfl⟩ ⟨Nat.le_of_ble_eq_true rfl, Nat.le_of_ble_eq_true rfl⟩ hl.1 rfl (Nat.le_of_ble_eq_true rfl) dX9_paste_13 ⟨Nat.zero_le _, Nat.zero_le _⟩ (fun r5 i5 g5 H locs hq hT hS => ?_)
    rcases hq with hq | hq
    ·
      obtain ⟨eh5, rfl, hf5_0⟩ := hq
      rw [(Prod.mk.inj eh5).1, (Prod.mk.inj eh5).2] at hT
      have h6 : rg 0 3 a_c := ⟨by have := (rg_top a_c).1; have := hf5_0.1; omega, by have := (rg_top a_c).2; have := hf5_0.2; omega⟩
      refine lv_if_ne (tgt := 22) hx hb dX9_paste_16 (by decide) (fun c7 => ?_) (fun c7 => (x_eq (rg_k (by decide) : rg 1 1 1) (rg_k (by decide) : rg 0 0 0) (i_eq c7) (by decide)).elim)
      refine lv_aload_n hx hb dX9_paste_22 rfl (lv_at hl 0 rfl) ?_
      refine r_getr X hT 96 1 97 fk_9_7 rfl rfl (by decide) dX9_paste_23 ?_
      refine lv_iload_n hx hb dX9_paste_26 rfl (lv_at hl 1 rfl) ?_
      refine r_iald X hT 97 rfl (by decide) (v_in h3 (by decide)) dX9_paste_27 ?_
      refine lv_iconst (v := (-1)) hx hb dX9_paste_28 (by decide) ?_
      refine lv_icmp_eq (tgt := 42) hx hb dX9_paste_29 (by decide) (fun c8 => ?_) (fun c8 => (x_ne (Rg_at hR1 97 a_a.toNatClampNeg (-1) (-1) (v_lt (v_in h3 (by decide))) rfl) (rg_k (by decide) : rg (-1) (-1) (-1)) (i_ne c8) (by decide)).elim)
      have q8 : (i1 97 a_a.toNatClampNeg).toInt = (-1) := i_eq c8
      refine lv_bipush (v := (-6)) hx hb dX9_paste_42 (by decide) ?_
      exact hret (-6) _ _ _ _ _ _ dX9_paste_44 hT hS (Or.inl ⟨hR1, rfl, (by have := h3.1; have := h3.2; have := h6.1; have := h6.2; omega)⟩)
    ·
      obtain ⟨eh5, rfl, hf5_0⟩ := hq
      rw [(Prod.mk.inj eh5).1, (Prod.mk.inj eh5).2] at hT
      refine lv_if_ne (tgt := 22) hx hb dX9_paste_16 (by decide) (fun c9 => (x_ne (rg_k (by decide) : rg 0 0 0) (rg_k (by decide) : rg 0 0 0) (i_ne c9) (by decide)).elim) (fun c9 => ?_)
      refine lv_bipush (v := (-2)) hx hb dX9_paste_19 (by decide) ?_
      exact hret (-2) _ _ _ _ _ _ dX9_paste_21 hT hS (Or.inr ⟨hR1, rfl, (by have := h3.1; have := h3.2; omega)⟩)
  ·
    obtain ⟨eh2, rfl, hf2_0⟩ := hq
    rw [(Prod.mk.inj eh2).1, (Prod.mk.inj eh2).2] at hT
    refine lv_if_eq (tgt := 19) hx hb dX9_paste_9 (by decide) (fun c10 => ?_) (fun c10 => (x_ne (rg_k (by decide) : rg 0 0 0) (rg_k (by decide) : rg 0 0 0) (i_ne c10) (by decide)).elim)
    refine lv_bipush (v := (-2)) hx hb dX9_paste_19 (by decide) ?_
    exact hret (-2) _ _ _ _ _ _ dX9_paste_21 hT hS (Or.inr ⟨hR1, rfl, (by omega)⟩)

set_option maxRecDepth 100000 in
set_option maxHeartbeats 4000000 in
theorem k_X9_four {l : Launch} {D : va_G} {h : Nat → Nat} {cz : Nat → ClassId} {i : Nat → Nat → Int32} {g : Nat → Nat → Int64} (hR : Rg rN i) (a_a : Int32) (hz : rg 0 696 (i 96 6)) : CtV l yX9_four cX9_four 3 none ({ frames := 0, cells := 0, slots := 0, locals := 0 } : Room) D h cz i g [.ref (h 96), .int a_a] (fun u => Rg rN u.1 ∧ (u.1 96 6).toInt = (i 96 6).toInt + 4) := by
  refine k_V pn_X9_four (Nat.le_of_ble_eq_true rfl) ?_
  intro p e s m args below meth c ls Q X hret hT hl hS
  have hx := X.1
  have hb := X.2.1
  have hl : lv_has ls 3 [(0, .ref (h 96)), (1, .int a_a)] := hl
  refine lv_bipush (v := 24) hx hb dX9_four_0 (by decide) ?_
  refine lv_istore_n (lv' := [(2, .int 24), (0, .ref (h 96)), (1, .int a_a)]) hx hb dX9_four_2 rfl hl (by decide) rfl (fun ls hl => ?_)
  refine lv_iload_n hx hb dX9_four_3 rfl (lv_at hl 0 rfl) ?_
  refine lv_if_lt (tgt := 36) hx hb dX9_four_4 (by decide) (fun c1 => (x_lt (rg_k (by decide) : rg 24 24 24) (rg_k (by decide) : rg 0 0 0) (i_lt c1) (by decide)).elim) (fun c1 => ?_)
  refine lv_aload_n hx hb dX9_four_7 rfl (lv_at hl 1 rfl) ?_
  refine r_getr X hT 96 5 101 fk_9_23 rfl rfl (by decide) dX9_four_8 ?_
  refine lv_aload_n hx hb dX9_four_11 rfl (lv_at hl 1 rfl) ?_
  refine r_geti X hT 96 6 fk_9_100 rfl rfl (by decide) dX9_four_12 ?_
  refine lv_iload_n hx hb dX9_four_15 rfl (lv_at hl 2 rfl) ?_
  refine lv_iload_n hx hb dX9_four_16 rfl (lv_at hl 0 rfl) ?_
  refine q_ishr hx hb dX9_four_17 (fun x2 ex2 => ?_)
  refine q_i2b hx hb dX9_four_18 (fun x3 ex3 => ?_)
  refine r_bast X hT hS 101 rfl (by decide) (v_in hz (by decide)) dX9_four_19 (fun H locs i4 ei4 hT hS => ?_)
  have z4_96_6 : i4 96 6 = (i 96 6) := z_j ei4 rfl (by decide)
  have hR4 := Rg_put hR ei4 (-128) 127 rfl (rg_nb x3) (by decide)
  refine lv_aload_n hx hb dX9_four_20 rfl (lv_at hl 1 rfl) ?_
  refine lv_dup hx hb dX9_four_21 rfl ?_
  refine r_geti X hT 96 6 fk_9_100 rfl rfl (by decide) dX9_four_22 ?_
  rw [z4_96_6]
  refine lv_iconst (v := 1) hx hb dX9_four_25 (by decide) ?_
  refine q_iadd hx hb dX9_four_26 (fun x5 ex5 => ?_)
  obtain ⟨hx5, ax5⟩ := rg_add 1 697 ex5 hz (rg_k (by decide) : rg 1 1 1) (by decide)
  replace ax5 : x5.toInt = (i 96 6).toInt + 1 := ax5
  refine r_puti X hT hS 96 6 pk_9_100 rfl rfl rfl rfl (by decide) dX9_four_27 (fun H locs i6 ei6 hT hS => ?_)
  have z6_96_6 : i6 96 6 = x5 := z_s ei6
  have hR6 := Rg_put hR4 ei6 0 700 rfl hx5 (by decide)
  obtain ⟨x7, ex7⟩ : ∃ y : Int32, y = 24 + (-8) := ⟨_, rfl⟩
  refine lv_iinc (v := x7) (lv' := [(2, .int x7), (0, .ref (h 96)), (1, .int a_a)]) hx hb dX9_four_30 hl (k := 0) rfl (by rw [ex7]; rfl) (by decide) rfl (fun ls hl => ?_)
  obtain ⟨hx7, ax7⟩ := rg_add 16 16 ex7 (rg_k (by decide) : rg 24 24 24) (rg_k (by decide) : rg (-8) (-8) (-8)) (by decide)
  replace ax7 : x7.toInt = 24 + (-8) := ax7
  refine lv_goto (tgt := 3) hx hb dX9_four_33 (by decide) ?_
  refine lv_iload_n hx hb dX9_four_3 rfl (lv_at hl 0 rfl) ?_
  refine lv_if_lt (tgt := 36) hx hb dX9_four_4 (by decide) (fun c8 => (x_lt hx7 (rg_k (by decide) : rg 0 0 0) (i_lt c8) (by decide)).elim) (fun c8 => ?_)
  have q8 : 0 ≤ x7.toInt := i_nlt c8
  refine lv_aload_n hx hb dX9_four_7 rfl (lv_at hl 1 rfl) ?_
  refine r_getr X hT 96 5 101 fk_9_23 rfl rfl (by decide) dX9_four_8 ?_
  refine lv_aload_n hx hb dX9_four_11 rfl (lv_at hl 1 rfl) ?_
  refine r_geti X hT 96 6 fk_9_100 rfl rfl (by decide) dX9_four_12 ?_
  rw [z6_96_6]
  refine lv_iload_n hx hb dX9_four_15 rfl (lv_at hl 2 rfl) ?_
  refine lv_iload_n hx hb dX9_four_16 rfl (lv_at hl 0 rfl) ?_
  refine q_ishr hx hb dX9_four_17 (fun x9 ex9 => ?_)
  refine q_i2b hx hb dX9_four_18 (fun x10 ex10 => ?_)
  refine r_bast X hT hS 101 rfl (by decide) (v_in hx5 (by decide)) dX9_four_19 (fun H locs i11 ei11 hT hS => ?_)
  have z11_96_6 : i11 96 6 = x5 := z_j ei11 z6_96_6 (by decide)
  have hR11 := Rg_put hR6 ei11 (-128) 127 rfl (rg_nb x10) (by decide)
  refine lv_aload_n hx hb dX9_four_20 rfl (lv_at hl 1 rfl) ?_
  refine lv_dup hx hb dX9_four_21 rfl ?_
  refine r_geti X hT 96 6 fk_9_100 rfl rfl (by decide) dX9_four_22 ?_
  rw [z11_96_6]
  refine lv_iconst (v := 1) hx hb dX9_four_25 (by decide) ?_
  refine q_iadd hx hb dX9_four_26 (fun x12 ex12 => ?_)
  obtain ⟨hx12, ax12⟩ := rg_add 2 698 ex12 hx5 (rg_k (by decide) : rg 1 1 1) (by decide)
  replace ax12 : x12.toInt = x5.toInt + 1 := ax12
  refine r_puti X hT hS 96 6 pk_9_100 rfl rfl rfl rfl (by decide) dX9_four_27 (fun H locs i13 ei13 hT hS => ?_)
  have z13_96_6 : i13 96 6 = x12 := z_s ei13
  have hR13 := Rg_put hR11 ei13 0 700 rfl hx12 (by decide)
  obtain ⟨x14, ex14⟩ : ∃ y : Int32, y = x7 + (-8) := ⟨_, rfl⟩
  refine lv_iinc (v := x14) (lv' := [(2, .int x14), (0, .ref (h 96)), (1, .int a_a)]) hx hb dX9_four_30 hl (k := 0) rfl (by rw [ex14]; rfl) (by decide) rfl (fun ls hl => ?_)
  obtain ⟨hx14, ax14⟩ := rg_add 8 8 ex14 hx7 (rg_k (by decide) : rg (-8) (-8) (-8)) (by decide)
  replace ax14 : x14.toInt = x7.toInt + (-8) := ax14
  refine lv_goto (tgt := 3) hx hb dX9_four_33 (by decide) ?_
  refine lv_iload_n hx hb dX9_four_3 rfl (lv_at hl 0 rfl) ?_
  refine lv_if_lt (tgt := 36) hx hb dX9_four_4 (by decide) (fun c15 => (x_lt hx14 (rg_k (by decide) : rg 0 0 0) (i_lt c15) (by decide)).elim) (fun c15 => ?_)
  have q15 : 0 ≤ x14.toInt := i_nlt c15
  refine lv_aload_n hx hb dX9_four_7 rfl (lv_at hl 1 rfl) ?_
  refine r_getr X hT 96 5 101 fk_9_23 rfl rfl (by decide) dX9_four_8 ?_
  refine lv_aload_n hx hb dX9_four_11 rfl (lv_at hl 1 rfl) ?_
  refine r_geti X hT 96 6 fk_9_100 rfl rfl (by decide) dX9_four_12 ?_
  rw [z13_96_6]
  refine lv_iload_n hx hb dX9_four_15 rfl (lv_at hl 2 rfl) ?_
  refine lv_iload_n hx hb dX9_four_16 rfl (lv_at hl 0 rfl) ?_
  refine q_ishr hx hb dX9_four_17 (fun x16 ex16 => ?_)
  refine q_i2b hx hb dX9_four_18 (fun x17 ex17 => ?_)
  refine r_bast X hT hS 101 rfl (by decide) (v_in hx12 (by decide)) dX9_four_19 (fun H locs i18 ei18 hT hS => ?_)
  have z18_96_6 : i18 96 6 = x12 := z_j ei18 z13_96_6 (by decide)
  have hR18 := Rg_put hR13 ei18 (-128) 127 rfl (rg_nb x17) (by decide)
  refine lv_aload_n hx hb dX9_four_20 rfl (lv_at hl 1 rfl) ?_
  refine lv_dup hx hb dX9_four_21 rfl ?_
  refine r_geti X hT 96 6 fk_9_100 rfl rfl (by decide) dX9_four_22 ?_
  rw [z18_96_6]
  refine lv_iconst (v := 1) hx hb dX9_four_25 (by decide) ?_
  refine q_iadd hx hb dX9_four_26 (fun x19 ex19 => ?_)
  obtain ⟨hx19, ax19⟩ := rg_add 3 699 ex19 hx12 (rg_k (by decide) : rg 1 1 1) (by decide)
  replace ax19 : x19.toInt = x12.toInt + 1 := ax19
  refine r_puti X hT hS 96 6 pk_9_100 rfl rfl rfl rfl (by decide) dX9_four_27 (fun H locs i20 ei20 hT hS => ?_)
  have z20_96_6 : i20 96 6 = x19 := z_s ei20
  have hR20 := Rg_put hR18 ei20 0 700 rfl hx19 (by decide)
  obtain ⟨x21, ex21⟩ : ∃ y : Int32, y = x14 + (-8) := ⟨_, rfl⟩
  refine lv_iinc (v := x21) (lv' := [(2, .int x21), (0, .ref (h 96)), (1, .int a_a)]) hx hb dX9_four_30 hl (k := 0) rfl (by rw [ex21]; rfl) (by decide) rfl (fun ls hl => ?_)
  obtain ⟨hx21, ax21⟩ := rg_add 0 0 ex21 hx14 (rg_k (by decide) : rg (-8) (-8) (-8)) (by decide)
  replace ax21 : x21.toInt = x14.toInt + (-8) := ax21
  refine lv_goto (tgt := 3) hx hb dX9_four_33 (by decide) ?_
  refine lv_iload_n hx hb dX9_four_3 rfl (lv_at hl 0 rfl) ?_
  refine lv_if_lt (tgt := 36) hx hb dX9_four_4 (by decide) (fun c22 => (x_lt hx21 (rg_k (by decide) : rg 0 0 0) (i_lt c22) (by decide)).elim) (fun c22 => ?_)
  have q22 : 0 ≤ x21.toInt := i_nlt c22
  refine lv_aload_n hx hb dX9_four_7 rfl (lv_at hl 1 rfl) ?_
  refine r_getr X hT 96 5 101 fk_9_23 rfl rfl (by decide) dX9_four_8 ?_
  refine lv_aload_n hx hb dX9_four_11 rfl (lv_at hl 1 rfl) ?_
  refine r_geti X hT 96 6 fk_9_100 rfl rfl (by decide) dX9_four_12 ?_
  rw [z20_96_6]
  refine lv_iload_n hx hb dX9_four_15 rfl (lv_at hl 2 rfl) ?_
  refine lv_iload_n hx hb dX9_four_16 rfl (lv_at hl 0 rfl) ?_
  refine q_ishr hx hb dX9_four_17 (fun x23 ex23 => ?_)
  refine q_i2b hx hb dX9_four_18 (fun x24 ex24 => ?_)
  refine r_bast X hT hS 101 rfl (by decide) (v_in hx19 (by decide)) dX9_four_19 (fun H locs i25 ei25 hT hS => ?_)
  have z25_96_6 : i25 96 6 = x19 := z_j ei25 z20_96_6 (by decide)
  have hR25 := Rg_put hR20 ei25 (-128) 127 rfl (rg_nb x24) (by decide)
  refine lv_aload_n hx hb dX9_four_20 rfl (lv_at hl 1 rfl) ?_
  refine lv_dup hx hb dX9_four_21 rfl ?_
  refine r_geti X hT 96 6 fk_9_100 rfl rfl (by decide) dX9_four_22 ?_
  rw [z25_96_6]
  refine lv_iconst (v := 1) hx hb dX9_four_25 (by decide) ?_
  refine q_iadd hx hb dX9_four_26 (fun x26 ex26 => ?_)
  obtain ⟨hx26, ax26⟩ := rg_add 4 700 ex26 hx19 (rg_k (by decide) : rg 1 1 1) (by decide)
  replace ax26 : x26.toInt = x19.toInt + 1 := ax26
  refine r_puti X hT hS 96 6 pk_9_100 rfl rfl rfl rfl (by decide) dX9_four_27 (fun H locs i27 ei27 hT hS => ?_)
  have z27_96_6 : i27 96 6 = x26 := z_s ei27
  have hR27 := Rg_put hR25 ei27 0 700 rfl hx26 (by decide)
  obtain ⟨x28, ex28⟩ : ∃ y : Int32, y = x21 + (-8) := ⟨_, rfl⟩
  refine lv_iinc (v := x28) (lv' := [(2, .int x28), (0, .ref (h 96)), (1, .int a_a)]) hx hb dX9_four_30 hl (k := 0) rfl (by rw [ex28]; rfl) (by decide) rfl (fun ls hl => ?_)
  obtain ⟨hx28, ax28⟩ := rg_add (-8) (-8) ex28 hx21 (rg_k (by decide) : rg (-8) (-8) (-8)) (by decide)
  replace ax28 : x28.toInt = x21.toInt + (-8) := ax28
  refine lv_goto (tgt := 3) hx hb dX9_four_33 (by decide) ?_
  refine lv_iload_n hx hb dX9_four_3 rfl (lv_at hl 0 rfl) ?_
  refine lv_if_lt (tgt := 36) hx hb dX9_four_4 (by decide) (fun c29 => ?_) (fun c29 => (x_le (rg_k (by decide) : rg 0 0 0) hx28 (i_nlt c29) (by decide)).elim)
  have q29 : x28.toInt < 0 := i_lt c29
  exact hret _ _ _ _ _ _ dX9_four_36 hT hS ⟨hR27, (by show (i27 96 6).toInt = _; rw [z27_96_6]; omega)⟩

set_option maxRecDepth 100000 in
set_option maxHeartbeats 4000000 in
theorem k_X9_feed {l : Launch} {D : va_G} {h : Nat → Nat} {cz : Nat → ClassId} {i : Nat → Nat → Int32} {g : Nat → Nat → Int64} (hR : Rg rN i) (a_a : Int32) (a_b : Int32) (a_c : Int32) (a_d : Int32) (a_e : Int32) (hz : rg 0 0 (i 96 6)) : CtI l yX9_feed cX9_feed 6 (some .int) ({ frames := 1, cells := 0, slots := 0, locals := 22 } : Room) D h cz i g [.ref (h 96), .int a_a, .int a_b, .int a_c, .int a_d, .int a_e] (fun r u => Rg rN u.1 ∧ r = 20) := by
  refine k_I pn_X9_feed (Nat.le_of_ble_eq_true rfl) ?_
  intro p e s m args below meth c ls Q X hret hT hl hS
  have hx := X.1
  have hb := X.2.1
  have hl : lv_has ls 6 [(0, .ref (h 96)), (1, .int a_a), (2, .int a_b), (3, .int a_c), (4, .int a_d), (5, .int a_e)] := hl
  refine lv_aload_n hx hb dX9_feed_0 rfl (lv_at hl 0 rfl) ?_
  refine lv_iconst (v := 0) hx hb dX9_feed_1 (by decide) ?_
  refine r_puti X hT hS 96 0 pk_9_83 rfl rfl rfl rfl (by decide) dX9_feed_2 (fun H locs i1 ei1 hT hS => ?_)
  have z1_96_6 : i1 96 6 = (i 96 6) := z_k ei1 rfl (by decide)
  have hR1 := Rg_put hR ei1 0 0 rfl (rg_k (by decide) : rg 0 0 0) (by decide)
  refine lv_aload_n hx hb dX9_feed_5 rfl (lv_at hl 0 rfl) ?_
  refine r_geti X hT 96 6 fk_9_100 rfl rfl (by decide) dX9_feed_6 ?_
  rw [z1_96_6]
  refine lv_bipush (v := 20) hx hb dX9_feed_9 (by decide) ?_
  refine q_iadd hx hb dX9_feed_11 (fun x2 ex2 => ?_)
  obtain ⟨hx2, ax2⟩ := rg_add 20 20 ex2 hz (rg_k (by decide) : rg 20 20 20) (by decide)
  replace ax2 : x2.toInt = (i 96 6).toInt + 20 := ax2
  refine lv_sipush (v := 700) hx hb dX9_feed_12 (by decide) ?_
  refine lv_icmp_le (tgt := 20) hx hb dX9_feed_15 (by decide) (fun c3 => ?_) (fun c3 => (x_lt (rg_k (by decide) : rg 700 700 700) hx2 (i_nle c3) (by decide)).elim)
  have q3 : x2.toInt ≤ 700 := i_le c3
  refine lv_aload_n hx hb dX9_feed_20 rfl (lv_at hl 0 rfl) ?_
  refine lv_iload_n hx hb dX9_feed_21 rfl (lv_at hl 1 rfl) ?_
  refine r_Vv (As := [.int a_a]) (rest := []) X hT hS (k_X9_four hR1 a_a (by rw [z1_96_6]; exact (rg_w hz (by decide) : rg 0 696 (i 96 6)))) mk_X9_four gm_1514 rfl rfl (by decide) hd_X9_four ⟨rfl, rfl⟩ ⟨Nat.le_of_ble_eq_true rfl, Nat.le_of_ble_eq_true rfl⟩ hl.1 rfl (Nat.le_of_ble_eq_true rfl) dX9_feed_22 ⟨Nat.zero_le _, Nat.zero_le _⟩ (fun i4 g4 H locs hq hT hS => ?_)
  obtain ⟨hR4, hf4_0⟩ := hq
  replace hf4_0 : (i4 96 6).toInt = (i1 96 6).toInt + 4 := hf4_0
  rw [z1_96_6] at hf4_0
  have h5 : rg 4 4 (i4 96 6) := ⟨by have := hz.1; have := hf4_0; omega, by have := hz.2; have := hf4_0; omega⟩
  refine lv_aload_n hx hb dX9_feed_25 rfl (lv_at hl 0 rfl) ?_
  refine lv_iload_n hx hb dX9_feed_26 rfl (lv_at hl 2 rfl) ?_
  refine r_Vv (As := [.int a_b]) (rest := []) X hT hS (k_X9_four hR4 a_b (rg_w h5 (by decide) : rg 0 696 (i4 96 6))) mk_X9_four gm_1514 rfl rfl (by decide) hd_X9_four ⟨rfl, rfl⟩ ⟨Nat.le_of_ble_eq_true rfl, Nat.le_of_ble_eq_true rfl⟩ hl.1 rfl (Nat.le_of_ble_eq_true rfl) dX9_feed_27 ⟨Nat.zero_le _, Nat.zero_le _⟩ (fun i6 g6 H locs hq hT hS => ?_)
  obtain ⟨hR6, hf6_0⟩ := hq
  replace hf6_0 : (i6 96 6).toInt = (i4 96 6).toInt + 4 := hf6_0
  have h7 : rg 8 8 (i6 96 6) := ⟨by have := h5.1; have := hf6_0; omega, by have := h5.2; have := hf6_0; omega⟩
  refine lv_aload_n hx hb dX9_feed_30 rfl (lv_at hl 0 rfl) ?_
  refine lv_iload_n hx hb dX9_feed_31 rfl (lv_at hl 3 rfl) ?_
  refine r_Vv (As := [.int a_c]) (rest := []) X hT hS (k_X9_four hR6 a_c (rg_w h7 (by decide) : rg 0 696 (i6 96 6))) mk_X9_four gm_1514 rfl rfl (by decide) hd_X9_four ⟨rfl, rfl⟩ ⟨Nat.le_of_ble_eq_true rfl, Nat.le_of_ble_eq_true rfl⟩ hl.1 rfl (Nat.le_of_ble_eq_true rfl) dX9_feed_32 ⟨Nat.zero_le _, Nat.zero_le _⟩ (fun i8 g8 H locs hq hT hS => ?_)
  obtain ⟨hR8, hf8_0⟩ := hq
  replace hf8_0 : (i8 96 6).toInt = (i6 96 6).toInt + 4 := hf8_0
  have h9 : rg 12 12 (i8 96 6) := ⟨by have := h7.1; have := hf8_0; omega, by have := h7.2; have := hf8_0; omega⟩
  refine lv_aload_n hx hb dX9_feed_35 rfl (lv_at hl 0 rfl) ?_
  refine lv_iload hx hb dX9_feed_36 (lv_at hl 4 rfl) ?_
  refine r_Vv (As := [.int a_d]) (rest := []) X hT hS (k_X9_four hR8 a_d (rg_w h9 (by decide) : rg 0 696 (i8 96 6))) mk_X9_four gm_1514 rfl rfl (by decide) hd_X9_four ⟨rfl, rfl⟩ ⟨Nat.le_of_ble_eq_true rfl, Nat.le_of_ble_eq_true rfl⟩ hl.1 rfl (Nat.le_of_ble_eq_true rfl) dX9_feed_38 ⟨Nat.zero_le _, Nat.zero_le _⟩ (fun i10 g10 H locs hq hT hS => ?_)
  obtain ⟨hR10, hf10_0⟩ := hq
  replace hf10_0 : (i10 96 6).toInt = (i8 96 6).toInt + 4 := hf10_0
  have h11 : rg 16 16 (i10 96 6) := ⟨by have := h9.1; have := hf10_0; omega, by have := h9.2; have := hf10_0; omega⟩
  refine lv_aload_n hx hb dX9_feed_41 rfl (lv_at hl 0 rfl) ?_
  refine lv_iload hx hb dX9_feed_42 (lv_at hl 5 rfl) ?_
  refine r_Vv (As := [.int a_e]) (rest := []) X hT hS (k_X9_four hR10 a_e (rg_w h11 (by decide) : rg 0 696 (i10 96 6))) mk_X9_four gm_1514 rfl rfl (by decide) hd_X9_four ⟨rfl, rfl⟩ ⟨Nat.le_of_ble_eq_true rfl, Nat.le_of_ble_eq_true rfl⟩ hl.1 rfl (Nat.le_of_ble_eq_true rfl) dX9_feed_44 ⟨Nat.zero_le _, Nat.zero_le _⟩ (fun i12 g12 H locs hq hT hS => ?_)
  obtain ⟨hR12, hf12_0⟩ := hq
  replace hf12_0 : (i12 96 6).toInt = (i10 96 6).toInt + 4 := hf12_0
  have h13 : rg 20 20 (i12 96 6) := ⟨by have := h11.1; have := hf12_0; omega, by have := h11.2; have := hf12_0; omega⟩
  refine lv_aload_n hx hb dX9_feed_47 rfl (lv_at hl 0 rfl) ?_
  refine r_geti X hT 96 6 fk_9_100 rfl rfl (by decide) dX9_feed_48 ?_
  exact hret (i12 96 6) _ _ _ _ _ _ dX9_feed_51 hT hS ⟨hR12, (rg_c h13)⟩

set_option maxRecDepth 100000 in
set_option maxHeartbeats 4000000 in
theorem k_X9_tellsOf {l : Launch} {D : va_G} {h : Nat → Nat} {cz : Nat → ClassId} {i : Nat → Nat → Int32} {g : Nat → Nat → Int64} (hR : Rg rM i) (a_a : Int32) (a_b : Int32) (ha_a : rg 0 6 a_a) (ha_b : rg 0 0 a_b) : CtV l yX9_tellsOf cX9_tellsOf 3 none ({ frames := 0, cells := 0, slots := 0, locals := 0 } : Room) D h cz i g [.ref (h 96), .int a_a, .int a_b] (fun u => Rg rM u.1) := by
  refine k_V pn_X9_tellsOf (Nat.le_of_ble_eq_true rfl) ?_
  intro p e s m args below meth c ls Q X hret hT hl hS
  have hx := X.1
  have hb := X.2.1
  have hl : lv_has ls 3 [(0, .ref (h 96)), (1, .int a_a), (2, .int a_b)] := hl
  refine lv_aload_n hx hb dX9_tellsOf_0 rfl (lv_at hl 0 rfl) ?_
  refine r_getr X hT 96 17 103 fk_9_34 rfl rfl (by decide) dX9_tellsOf_1 ?_
  refine lv_bipush (v := 28) hx hb dX9_tellsOf_4 (by decide) ?_
  refine lv_iload_n hx hb dX9_tellsOf_6 rfl (lv_at hl 1 rfl) ?_
  refine q_iadd hx hb dX9_tellsOf_7 (fun x1 ex1 => ?_)
  obtain ⟨hx1, ax1⟩ := rg_add 28 34 ex1 (rg_k (by decide) : rg 28 28 28) ha_a (by decide)
  replace ax1 : x1.toInt = 28 + a_a.toInt := ax1
  refine lv_iload_n hx hb dX9_tellsOf_8 rfl (lv_at hl 2 rfl) ?_
  refine r_iast X hT hS 103 rfl (by decide) (v_in hx1 (by decide)) dX9_tellsOf_9 (fun H locs i2 ei2 hT hS => ?_)
  have hR2 := Rg_put hR ei2 0 0 rfl ha_b (by decide)
  exact hret _ _ _ _ _ _ dX9_tellsOf_10 hT hS hR2

set_option maxRecDepth 100000 in
set_option maxHeartbeats 4000000 in
theorem k_X9_clears {l : Launch} {D : va_G} {h : Nat → Nat} {cz : Nat → ClassId} {i : Nat → Nat → Int32} {g : Nat → Nat → Int64} (hR : Rg rM i)  : CtV l yX9_clears cX9_clears 2 none ({ frames := 1, cells := 0, slots := 0, locals := 22 } : Room) D h cz i g [.ref (h 96)] (fun u => Rg rM u.1) := by
  refine k_V pn_X9_clears (Nat.le_of_ble_eq_true rfl) ?_
  intro p e s m args below meth c ls Q X hret hT hl hS
  have hx := X.1
  have hb := X.2.1
  have hl : lv_has ls 2 [(0, .ref (h 96))] := hl
  refine lv_aload_n hx hb dX9_clears_0 rfl (lv_at hl 0 rfl) ?_
  refine r_getr X hT 96 16 102 fk_9_31 rfl rfl (by decide) dX9_clears_1 ?_
  refine lv_iconst (v := 4) hx hb dX9_clears_4 (by decide) ?_
  refine lv_iconst (v := 0) hx hb dX9_clears_5 (by decide) ?_
  refine r_iast X hT hS 102 rfl (by decide) (v_in (rg_k (by decide) : rg 4 4 4) (by decide)) dX9_clears_6 (fun H locs i1 ei1 hT hS => ?_)
  have hR1 := Rg_put hR ei1 0 0 rfl (rg_k (by decide) : rg 0 0 0) (by decide)
  refine lv_iconst (v := 0) hx hb dX9_clears_7 (by decide) ?_
  refine lv_istore_n (lv' := [(1, .int 0), (0, .ref (h 96))]) hx hb dX9_clears_8 rfl hl (by decide) rfl (fun ls hl => ?_)
  refine lv_iload_n hx hb dX9_clears_9 rfl (lv_at hl 0 rfl) ?_
  refine lv_bipush (v := 7) hx hb dX9_clears_10 (by decide) ?_
  refine lv_icmp_ge (tgt := 27) hx hb dX9_clears_12 (by decide) (fun c2 => (x_le (rg_k (by decide) : rg 7 7 7) (rg_k (by decide) : rg 0 0 0) (i_le c2) (by decide)).elim) (fun c2 => ?_)
  refine lv_aload_n hx hb dX9_clears_15 rfl (lv_at hl 1 rfl) ?_
  refine lv_iload_n hx hb dX9_clears_16 rfl (lv_at hl 0 rfl) ?_
  refine lv_iconst (v := 0) hx hb dX9_clears_17 (by decide) ?_
  refine r_Vv (As := [.int 0, .int 0]) (rest := []) X hT hS (k_X9_tellsOf hR1 (0) (0) (rg_w (rg_k (by decide) : rg 0 0 0) (by decide) : rg 0 6 0) (rg_k (by decide) : rg 0 0 0)) mk_X9_tellsOf gm_1534 rfl rfl (by decide) hd_X9_tellsOf ⟨rfl, rfl⟩ ⟨Nat.le_of_ble_eq_true rfl, Nat.le_of_ble_eq_true rfl⟩ hl.1 rfl (Nat.le_of_ble_eq_true rfl) dX9_clears_18 ⟨Nat.zero_le _, Nat.zero_le _⟩ (fun i3 g3 H locs hq hT hS => ?_)
  have hR3 := hq
  obtain ⟨x4, ex4⟩ : ∃ y : Int32, y = 0 + 1 := ⟨_, rfl⟩
  refine lv_iinc (v := x4) (lv' := [(1, .int x4), (0, .ref (h 96))]) hx hb dX9_clears_21 hl (k := 0) rfl (by rw [ex4]; rfl) (by decide) rfl (fun ls hl => ?_)
  obtain ⟨hx4, ax4⟩ := rg_add 1 1 ex4 (rg_k (by decide) : rg 0 0 0) (rg_k (by decide) : rg 1 1 1) (by decide)
  replace ax4 : x4.toInt = 0 + 1 := ax4
  refine lv_goto (tgt := 9) hx hb dX9_clears_24 (by decide) ?_
  refine lv_iload_n hx hb dX9_clears_9 rfl (lv_at hl 0 rfl) ?_
  refine lv_bipush (v := 7) hx hb dX9_clears_10 (by decide) ?_
  refine lv_icmp_ge (tgt := 27) hx hb dX9_clears_12 (by decide) (fun c5 => (x_le (rg_k (by decide) : rg 7 7 7) hx4 (i_le c5) (by decide)).elim) (fun c5 => ?_)
  have q5 : x4.toInt < 7 := i_nle c5
  refine lv_aload_n hx hb dX9_clears_15 rfl (lv_at hl 1 rfl) ?_
  refine lv_iload_n hx hb dX9_clears_16 rfl (lv_at hl 0 rfl) ?_
  refine lv_iconst (v := 0) hx hb dX9_clears_17 (by decide) ?_
  refine r_Vv (As := [.int x4, .int 0]) (rest := []) X hT hS (k_X9_tellsOf hR3 x4 (0) (rg_w hx4 (by decide) : rg 0 6 x4) (rg_k (by decide) : rg 0 0 0)) mk_X9_tellsOf gm_1534 rfl rfl (by decide) hd_X9_tellsOf ⟨rfl, rfl⟩ ⟨Nat.le_of_ble_eq_true rfl, Nat.le_of_ble_eq_true rfl⟩ hl.1 rfl (Nat.le_of_ble_eq_true rfl) dX9_clears_18 ⟨Nat.zero_le _, Nat.zero_le _⟩ (fun i6 g6 H locs hq hT hS => ?_)
  have hR6 := hq
  obtain ⟨x7, ex7⟩ : ∃ y : Int32, y = x4 + 1 := ⟨_, rfl⟩
  refine lv_iinc (v := x7) (lv' := [(1, .int x7), (0, .ref (h 96))]) hx hb dX9_clears_21 hl (k := 0) rfl (by rw [ex7]; rfl) (by decide) rfl (fun ls hl => ?_)
  obtain ⟨hx7, ax7⟩ := rg_add 2 2 ex7 hx4 (rg_k (by decide) : rg 1 1 1) (by decide)
  replace ax7 : x7.toInt = x4.toInt + 1 := ax7
  refine lv_goto (tgt := 9) hx hb dX9_clears_24 (by decide) ?_
  refine lv_iload_n hx hb dX9_clears_9 rfl (lv_at hl 0 rfl) ?_
  refine lv_bipush (v := 7) hx hb dX9_clears_10 (by decide) ?_
  refine lv_icmp_ge (tgt := 27) hx hb dX9_clears_12 (by decide) (fun c8 => (x_le (rg_k (by decide) : rg 7 7 7) hx7 (i_le c8) (by decide)).elim) (fun c8 => ?_)
  have q8 : x7.toInt < 7 := i_nle c8
  refine lv_aload_n hx hb dX9_clears_15 rfl (lv_at hl 1 rfl) ?_
  refine lv_iload_n hx hb dX9_clears_16 rfl (lv_at hl 0 rfl) ?_
  refine lv_iconst (v := 0) hx hb dX9_clears_17 (by decide) ?_
  refine r_Vv (As := [.int x7, .int 0]) (rest := []) X hT hS (k_X9_tellsOf hR6 x7 (0) (rg_w hx7 (by decide) : rg 0 6 x7) (rg_k (by decide) : rg 0 0 0)) mk_X9_tellsOf gm_1534 rfl rfl (by decide) hd_X9_tellsOf ⟨rfl, rfl⟩ ⟨Nat.le_of_ble_eq_true rfl, Nat.le_of_ble_eq_true rfl⟩ hl.1 rfl (Nat.le_of_ble_eq_true rfl) dX9_clears_18 ⟨Nat.zero_le _, Nat.zero_le _⟩ (fun i9 g9 H locs hq hT hS => ?_)
  have hR9 := hq
  obtain ⟨x10, ex10⟩ : ∃ y : Int32, y = x7 + 1 := ⟨_, rfl⟩
  refine lv_iinc (v := x10) (lv' := [(1, .int x10), (0, .ref (h 96))]) hx hb dX9_clears_21 hl (k := 0) rfl (by rw [ex10]; rfl) (by decide) rfl (fun ls hl => ?_)
  obtain ⟨hx10, ax10⟩ := rg_add 3 3 ex10 hx7 (rg_k (by decide) : rg 1 1 1) (by decide)
  replace ax10 : x10.toInt = x7.toInt + 1 := ax10
  refine lv_goto (tgt := 9) hx hb dX9_clears_24 (by decide) ?_
  refine lv_iload_n hx hb dX9_clears_9 rfl (lv_at hl 0 rfl) ?_
  refine lv_bipush (v := 7) hx hb dX9_clears_10 (by decide) ?_
  refine lv_icmp_ge (tgt := 27) hx hb dX9_clears_12 (by decide) (fun c11 => (x_le (rg_k (by decide) : rg 7 7 7) hx10 (i_le c11) (by decide)).elim) (fun c11 => ?_)
  have q11 : x10.toInt < 7 := i_nle c11
  refine lv_aload_n hx hb dX9_clears_15 rfl (lv_at hl 1 rfl) ?_
  refine lv_iload_n hx hb dX9_clears_16 rfl (lv_at hl 0 rfl) ?_
  refine lv_iconst (v := 0) hx hb dX9_clears_17 (by decide) ?_
  refine r_Vv (As := [.int x10, .int 0]) (rest := []) X hT hS (k_X9_tellsOf hR9 x10 (0) (rg_w hx10 (by decide) : rg 0 6 x10) (rg_k (by decide) : rg 0 0 0)) mk_X9_tellsOf gm_1534 rfl rfl (by decide) hd_X9_tellsOf ⟨rfl, rfl⟩ ⟨Nat.le_of_ble_eq_true rfl, Nat.le_of_ble_eq_true rfl⟩ hl.1 rfl (Nat.le_of_ble_eq_true rfl) dX9_clears_18 ⟨Nat.zero_le _, Nat.zero_le _⟩ (fun i12 g12 H locs hq hT hS => ?_)
  have hR12 := hq
  obtain ⟨x13, ex13⟩ : ∃ y : Int32, y = x10 + 1 := ⟨_, rfl⟩
  refine lv_iinc (v := x13) (lv' := [(1, .int x13), (0, .ref (h 96))]) hx hb dX9_clears_21 hl (k := 0) rfl (by rw [ex13]; rfl) (by decide) rfl (fun ls hl => ?_)
  obtain ⟨hx13, ax13⟩ := rg_add 4 4 ex13 hx10 (rg_k (by decide) : rg 1 1 1) (by decide)
  replace ax13 : x13.toInt = x10.toInt + 1 := ax13
  refine lv_goto (tgt := 9) hx hb dX9_clears_24 (by decide) ?_
  refine lv_iload_n hx hb dX9_clears_9 rfl (lv_at hl 0 rfl) ?_
  refine lv_bipush (v := 7) hx hb dX9_clears_10 (by decide) ?_
  refine lv_icmp_ge (tgt := 27) hx hb dX9_clears_12 (by decide) (fun c14 => (x_le (rg_k (by decide) : rg 7 7 7) hx13 (i_le c14) (by decide)).elim) (fun c14 => ?_)
  have q14 : x13.toInt < 7 := i_nle c14
  refine lv_aload_n hx hb dX9_clears_15 rfl (lv_at hl 1 rfl) ?_
  refine lv_iload_n hx hb dX9_clears_16 rfl (lv_at hl 0 rfl) ?_
  refine lv_iconst (v := 0) hx hb dX9_clears_17 (by decide) ?_
  refine r_Vv (As := [.int x13, .int 0]) (rest := []) X hT hS (k_X9_tellsOf hR12 x13 (0) (rg_w hx13 (by decide) : rg 0 6 x13) (rg_k (by decide) : rg 0 0 0)) mk_X9_tellsOf gm_1534 rfl rfl (by decide) hd_X9_tellsOf ⟨rfl, rfl⟩ ⟨Nat.le_of_ble_eq_true rfl, Nat.le_of_ble_eq_true rfl⟩ hl.1 rfl (Nat.le_of_ble_eq_true rfl) dX9_clears_18 ⟨Nat.zero_le _, Nat.zero_le _⟩ (fun i15 g15 H locs hq hT hS => ?_)
  have hR15 := hq
  obtain ⟨x16, ex16⟩ : ∃ y : Int32, y = x13 + 1 := ⟨_, rfl⟩
  refine lv_iinc (v := x16) (lv' := [(1, .int x16), (0, .ref (h 96))]) hx hb dX9_clears_21 hl (k := 0) rfl (by rw [ex16]; rfl) (by decide) rfl (fun ls hl => ?_)
  obtain ⟨hx16, ax16⟩ := rg_add 5 5 ex16 hx13 (rg_k (by decide) : rg 1 1 1) (by decide)
  replace ax16 : x16.toInt = x13.toInt + 1 := ax16
  refine lv_goto (tgt := 9) hx hb dX9_clears_24 (by decide) ?_
  refine lv_iload_n hx hb dX9_clears_9 rfl (lv_at hl 0 rfl) ?_
  refine lv_bipush (v := 7) hx hb dX9_clears_10 (by decide) ?_
  refine lv_icmp_ge (tgt := 27) hx hb dX9_clears_12 (by decide) (fun c17 => (x_le (rg_k (by decide) : rg 7 7 7) hx16 (i_le c17) (by decide)).elim) (fun c17 => ?_)
  have q17 : x16.toInt < 7 := i_nle c17
  refine lv_aload_n hx hb dX9_clears_15 rfl (lv_at hl 1 rfl) ?_
  refine lv_iload_n hx hb dX9_clears_16 rfl (lv_at hl 0 rfl) ?_
  refine lv_iconst (v := 0) hx hb dX9_clears_17 (by decide) ?_
  refine r_Vv (As := [.int x16, .int 0]) (rest := []) X hT hS (k_X9_tellsOf hR15 x16 (0) (rg_w hx16 (by decide) : rg 0 6 x16) (rg_k (by decide) : rg 0 0 0)) mk_X9_tellsOf gm_1534 rfl rfl (by decide) hd_X9_tellsOf ⟨rfl, rfl⟩ ⟨Nat.le_of_ble_eq_true rfl, Nat.le_of_ble_eq_true rfl⟩ hl.1 rfl (Nat.le_of_ble_eq_true rfl) dX9_clears_18 ⟨Nat.zero_le _, Nat.zero_le _⟩ (fun i18 g18 H locs hq hT hS => ?_)
  have hR18 := hq
  obtain ⟨x19, ex19⟩ : ∃ y : Int32, y = x16 + 1 := ⟨_, rfl⟩
  refine lv_iinc (v := x19) (lv' := [(1, .int x19), (0, .ref (h 96))]) hx hb dX9_clears_21 hl (k := 0) rfl (by rw [ex19]; rfl) (by decide) rfl (fun ls hl => ?_)
  obtain ⟨hx19, ax19⟩ := rg_add 6 6 ex19 hx16 (rg_k (by decide) : rg 1 1 1) (by decide)
  replace ax19 : x19.toInt = x16.toInt + 1 := ax19
  refine lv_goto (tgt := 9) hx hb dX9_clears_24 (by decide) ?_
  refine lv_iload_n hx hb dX9_clears_9 rfl (lv_at hl 0 rfl) ?_
  refine lv_bipush (v := 7) hx hb dX9_clears_10 (by decide) ?_
  refine lv_icmp_ge (tgt := 27) hx hb dX9_clears_12 (by decide) (fun c20 => (x_le (rg_k (by decide) : rg 7 7 7) hx19 (i_le c20) (by decide)).elim) (fun c20 => ?_)
  have q20 : x19.toInt < 7 := i_nle c20
  refine lv_aload_n hx hb dX9_clears_15 rfl (lv_at hl 1 rfl) ?_
  refine lv_iload_n hx hb dX9_clears_16 rfl (lv_at hl 0 rfl) ?_
  refine lv_iconst (v := 0) hx hb dX9_clears_17 (by decide) ?_
  refine r_Vv (As := [.int x19, .int 0]) (rest := []) X hT hS (k_X9_tellsOf hR18 x19 (0) (rg_w hx19 (by decide) : rg 0 6 x19) (rg_k (by decide) : rg 0 0 0)) mk_X9_tellsOf gm_1534 rfl rfl (by decide) hd_X9_tellsOf ⟨rfl, rfl⟩ ⟨Nat.le_of_ble_eq_true rfl, Nat.le_of_ble_eq_true rfl⟩ hl.1 rfl (Nat.le_of_ble_eq_true rfl) dX9_clears_18 ⟨Nat.zero_le _, Nat.zero_le _⟩ (fun i21 g21 H locs hq hT hS => ?_)
  have hR21 := hq
  obtain ⟨x22, ex22⟩ : ∃ y : Int32, y = x19 + 1 := ⟨_, rfl⟩
  refine lv_iinc (v := x22) (lv' := [(1, .int x22), (0, .ref (h 96))]) hx hb dX9_clears_21 hl (k := 0) rfl (by rw [ex22]; rfl) (by decide) rfl (fun ls hl => ?_)
  obtain ⟨hx22, ax22⟩ := rg_add 7 7 ex22 hx19 (rg_k (by decide) : rg 1 1 1) (by decide)
  replace ax22 : x22.toInt = x19.toInt + 1 := ax22
  refine lv_goto (tgt := 9) hx hb dX9_clears_24 (by decide) ?_
  refine lv_iload_n hx hb dX9_clears_9 rfl (lv_at hl 0 rfl) ?_
  refine lv_bipush (v := 7) hx hb dX9_clears_10 (by decide) ?_
  refine lv_icmp_ge (tgt := 27) hx hb dX9_clears_12 (by decide) (fun c23 => ?_) (fun c23 => (x_lt hx22 (rg_k (by decide) : rg 7 7 7) (i_nle c23) (by decide)).elim)
  have q23 : 7 ≤ x22.toInt := i_le c23
  exact hret _ _ _ _ _ _ dX9_clears_27 hT hS hR21

set_option maxRecDepth 100000 in
set_option maxHeartbeats 4000000 in
theorem k_X9_isByte {l : Launch} {D : va_G} {h : Nat → Nat} {cz : Nat → ClassId} {i : Nat → Nat → Int32} {g : Nat → Nat → Int64} (hR : Rg rM i) (a_a : Int32) (a_b : Int32) (a_c : Int32) (ha_a : rg 0 0 a_a) : CtI l yX9_isByte cX9_isByte 4 (some .boolean) ({ frames := 0, cells := 0, slots := 0, locals := 0 } : Room) D h cz i g [.ref (h 96), .int a_a, .int a_b, .int a_c] (fun r u => u = (i, g) ∧ r = 0) := by
  refine k_Z (by intro v u hq; obtain ⟨-, hq⟩ := hq; exact Or.inl hq) pn_X9_isByte (Nat.le_of_ble_eq_true rfl) ?_
  intro p e s m args below meth c ls Q X hret hT hl hS
  have hx := X.1
  have hb := X.2.1
  have hl : lv_has ls 4 [(0, .ref (h 96)), (1, .int a_a), (2, .int a_b), (3, .int a_c)] := hl
  refine lv_iload_n hx hb dX9_isByte_0 rfl (lv_at hl 1 rfl) ?_
  refine lv_aload_n hx hb dX9_isByte_1 rfl (lv_at hl 0 rfl) ?_
  refine r_geti X hT 96 6 fk_9_100 rfl rfl (by decide) dX9_isByte_2 ?_
  refine lv_icmp_ge (tgt := 32) hx hb dX9_isByte_5 (by decide) (fun c1 => ?_) (fun c1 => (x_lt ha_a (Rg_at hR 96 6 0 0 (by decide) rfl) (i_nle c1) (by decide)).elim)
  have q1 : (i 96 6).toInt ≤ a_a.toInt := i_le c1
  refine lv_iconst (v := 0) hx hb dX9_isByte_32 (by decide) ?_
  exact hret 0 _ _ _ _ _ _ dX9_isByte_33 hT hS ⟨rfl, rfl⟩

set_option maxRecDepth 100000 in
set_option maxHeartbeats 4000000 in
theorem k_X9_follows {l : Launch} {D : va_G} {h : Nat → Nat} {cz : Nat → ClassId} {i : Nat → Nat → Int32} {g : Nat → Nat → Int64} (hR : Rg rM i)  : CtV l yX9_follows cX9_follows 2 none ({ frames := 1, cells := 0, slots := 0, locals := 23 } : Room) D h cz i g [.ref (h 96)] (fun u => Rg rM u.1) := by
  refine k_V pn_X9_follows (Nat.le_of_ble_eq_true rfl) ?_
  intro p e s m args below meth c ls Q X hret hT hl hS
  have hx := X.1
  have hb := X.2.1
  have hl : lv_has ls 2 [(0, .ref (h 96))] := hl
  refine lv_aload_n hx hb dX9_follows_0 rfl (lv_at hl 0 rfl) ?_
  refine lv_aload_n hx hb dX9_follows_1 rfl (lv_at hl 0 rfl) ?_
  refine r_geti X hT 96 7 fk_9_107 rfl rfl (by decide) dX9_follows_2 ?_
  refine lv_bipush (v := 32) hx hb dX9_follows_5 (by decide) ?_
  refine lv_bipush (v := 32) hx hb dX9_follows_7 (by decide) ?_
  refine r_Vi (As := [.int (i 96 7), .int 32, .int 32]) (rest := []) X hT hS (k_X9_isByte hR (i 96 7) (32) (32) (Rg_at hR 96 7 0 0 (by decide) rfl)) mk_X9_isByte gm_1546 rfl rfl (by decide) hd_X9_isByte ⟨rfl, rfl⟩ ⟨Nat.le_of_ble_eq_true rfl, Nat.le_of_ble_eq_true rfl⟩ hl.1 rfl (Nat.le_of_ble_eq_true rfl) dX9_follows_9 ⟨Nat.zero_le _, Nat.zero_le _⟩ (fun r1 i1 g1 H locs hq hT hS => ?_)
  obtain ⟨eh1, rfl⟩ := hq
  rw [(Prod.mk.inj eh1).1, (Prod.mk.inj eh1).2] at hT
  refine lv_if_ne (tgt := 30) hx hb dX9_follows_12 (by decide) (fun c2 => (x_ne (rg_k (by decide) : rg 0 0 0) (rg_k (by decide) : rg 0 0 0) (i_ne c2) (by decide)).elim) (fun c2 => ?_)
  refine lv_aload_n hx hb dX9_follows_15 rfl (lv_at hl 0 rfl) ?_
  refine lv_aload_n hx hb dX9_follows_16 rfl (lv_at hl 0 rfl) ?_
  refine r_geti X hT 96 7 fk_9_107 rfl rfl (by decide) dX9_follows_17 ?_
  refine lv_bipush (v := 10) hx hb dX9_follows_20 (by decide) ?_
  refine lv_bipush (v := 10) hx hb dX9_follows_22 (by decide) ?_
  refine r_Vi (As := [.int (i 96 7), .int 10, .int 10]) (rest := []) X hT hS (k_X9_isByte hR (i 96 7) (10) (10) (Rg_at hR 96 7 0 0 (by decide) rfl)) mk_X9_isByte gm_1546 rfl rfl (by decide) hd_X9_isByte ⟨rfl, rfl⟩ ⟨Nat.le_of_ble_eq_true rfl, Nat.le_of_ble_eq_true rfl⟩ hl.1 rfl (Nat.le_of_ble_eq_true rfl) dX9_follows_24 ⟨Nat.zero_le _, Nat.zero_le _⟩ (fun r3 i3 g3 H locs hq hT hS => ?_)
  obtain ⟨eh3, rfl⟩ := hq
  rw [(Prod.mk.inj eh3).1, (Prod.mk.inj eh3).2] at hT
  refine lv_if_eq (tgt := 43) hx hb dX9_follows_27 (by decide) (fun c4 => ?_) (fun c4 => (x_ne (rg_k (by decide) : rg 0 0 0) (rg_k (by decide) : rg 0 0 0) (i_ne c4) (by decide)).elim)
  refine lv_aload_n hx hb dX9_follows_43 rfl (lv_at hl 0 rfl) ?_
  refine lv_aload_n hx hb dX9_follows_44 rfl (lv_at hl 0 rfl) ?_
  refine r_geti X hT 96 7 fk_9_107 rfl rfl (by decide) dX9_follows_45 ?_
  refine r_puti X hT hS 96 9 pk_9_114 rfl rfl rfl rfl (by decide) dX9_follows_48 (fun H locs i5 ei5 hT hS => ?_)
  have hR5 := Rg_put hR ei5 0 0 rfl (Rg_at hR 96 7 0 0 (by decide) rfl) (by decide)
  refine lv_aload_n hx hb dX9_follows_51 rfl (lv_at hl 0 rfl) ?_
  refine lv_iconst (v := 0) hx hb dX9_follows_52 (by decide) ?_
  refine r_puti X hT hS 96 10 pk_9_117 rfl rfl rfl rfl (by decide) dX9_follows_53 (fun H locs i6 ei6 hT hS => ?_)
  have hR6 := Rg_put hR5 ei6 0 0 rfl (rg_k (by decide) : rg 0 0 0) (by decide)
  refine lv_aload_n hx hb dX9_follows_56 rfl (lv_at hl 0 rfl) ?_
  refine lv_lconst (v := 0) hx hb dX9_follows_57 (by decide) ?_
  refine r_putl X hT hS 96 11 pk_9_120 rfl rfl (by decide) dX9_follows_58 (fun H locs g7 eg7 hT hS => ?_)
  refine lv_aload_n hx hb dX9_follows_61 rfl (lv_at hl 0 rfl) ?_
  refine r_geti X hT 96 7 fk_9_107 rfl rfl (by decide) dX9_follows_62 ?_
  refine lv_aload_n hx hb dX9_follows_65 rfl (lv_at hl 0 rfl) ?_
  refine r_geti X hT 96 6 fk_9_100 rfl rfl (by decide) dX9_follows_66 ?_
  refine lv_icmp_ne (tgt := 80) hx hb dX9_follows_69 (by decide) (fun c8 => (x_ne (Rg_at hR6 96 7 0 0 (by decide) rfl) (Rg_at hR6 96 6 0 0 (by decide) rfl) (i_ne c8) (by decide)).elim) (fun c8 => ?_)
  have q8 : (i6 96 7).toInt = (i6 96 6).toInt := i_eq c8
  refine lv_aload_n hx hb dX9_follows_72 rfl (lv_at hl 0 rfl) ?_
  refine lv_iconst (v := 0) hx hb dX9_follows_73 (by decide) ?_
  refine r_puti X hT hS 96 8 pk_9_124 rfl rfl rfl rfl (by decide) dX9_follows_74 (fun H locs i9 ei9 hT hS => ?_)
  have hR9 := Rg_put hR6 ei9 0 0 rfl (rg_k (by decide) : rg 0 0 0) (by decide)
  refine lv_goto (tgt := 307) hx hb dX9_follows_77 (by decide) ?_
  exact hret _ _ _ _ _ _ dX9_follows_307 hT hS hR9

set_option maxRecDepth 100000 in
set_option maxHeartbeats 4000000 in
theorem k_X9_begins {l : Launch} {D : va_G} {h : Nat → Nat} {cz : Nat → ClassId} {i : Nat → Nat → Int32} {g : Nat → Nat → Int64} (hR : Rg rM i)  : CtV l yX9_begins cX9_begins 1 none ({ frames := 2, cells := 0, slots := 0, locals := 44 } : Room) D h cz i g [.ref (h 96)] (fun u => Rg rM u.1) := by
  refine k_V pn_X9_begins (Nat.le_of_ble_eq_true rfl) ?_
  intro p e s m args below meth c ls Q X hret hT hl hS
  have hx := X.1
  have hb := X.2.1
  have hl : lv_has ls 1 [(0, .ref (h 96))] := hl
  refine lv_aload_n hx hb dX9_begins_0 rfl (lv_at hl 0 rfl) ?_
  refine lv_iconst (v := 0) hx hb dX9_begins_1 (by decide) ?_
  refine r_puti X hT hS 96 12 pk_9_135 rfl rfl rfl rfl (by decide) dX9_begins_2 (fun H locs i1 ei1 hT hS => ?_)
  have hR1 := Rg_put hR ei1 0 0 rfl (rg_k (by decide) : rg 0 0 0) (by decide)
  refine lv_aload_n hx hb dX9_begins_5 rfl (lv_at hl 0 rfl) ?_
  refine lv_iconst (v := (-1)) hx hb dX9_begins_6 (by decide) ?_
  refine r_puti X hT hS 96 13 pk_9_138 rfl rfl rfl rfl (by decide) dX9_begins_7 (fun H locs i2 ei2 hT hS => ?_)
  have hR2 := Rg_put hR1 ei2 (-1) 0 rfl (rg_k (by decide) : rg (-1) (-1) (-1)) (by decide)
  refine lv_aload_n hx hb dX9_begins_10 rfl (lv_at hl 0 rfl) ?_
  refine lv_iconst (v := 0) hx hb dX9_begins_11 (by decide) ?_
  refine r_puti X hT hS 96 7 pk_9_107 rfl rfl rfl rfl (by decide) dX9_begins_12 (fun H locs i3 ei3 hT hS => ?_)
  have hR3 := Rg_put hR2 ei3 0 0 rfl (rg_k (by decide) : rg 0 0 0) (by decide)
  refine lv_aload_n hx hb dX9_begins_15 rfl (lv_at hl 0 rfl) ?_
  refine r_Vv (As := []) (rest := []) X hT hS (k_X9_follows hR3) mk_X9_follows gm_1542 rfl rfl (by decide) hd_X9_follows ⟨rfl, rfl⟩ ⟨Nat.le_of_ble_eq_true rfl, Nat.le_of_ble_eq_true rfl⟩ hl.1 rfl (Nat.le_of_ble_eq_true rfl) dX9_begins_16 ⟨Nat.zero_le _, Nat.zero_le _⟩ (fun i4 g4 H locs hq hT hS => ?_)
  have hR4 := hq
  exact hret _ _ _ _ _ _ dX9_begins_19 hT hS hR4

set_option maxRecDepth 100000 in
set_option maxHeartbeats 4000000 in
theorem k_X9_isGood {l : Launch} {D : va_G} {h : Nat → Nat} {cz : Nat → ClassId} {i : Nat → Nat → Int32} {g : Nat → Nat → Int64} (hR : Rg rM i)  : CtI l yX9_isGood cX9_isGood 1 (some .boolean) ({ frames := 0, cells := 0, slots := 0, locals := 0 } : Room) D h cz i g [.ref (h 96)] (fun r u => u = (i, g) ∧ r = 1) := by
  refine k_Z (by intro v u hq; obtain ⟨-, hq⟩ := hq; exact Or.inr hq) pn_X9_isGood (Nat.le_of_ble_eq_true rfl) ?_
  intro p e s m args below meth c ls Q X hret hT hl hS
  have hx := X.1
  have hb := X.2.1
  have hl : lv_has ls 1 [(0, .ref (h 96))] := hl
  refine lv_aload_n hx hb dX9_isGood_0 rfl (lv_at hl 0 rfl) ?_
  refine r_geti X hT 96 12 fk_9_135 rfl rfl (by decide) dX9_isGood_1 ?_
  refine lv_if_ne (tgt := 11) hx hb dX9_isGood_4 (by decide) (fun c1 => (x_ne (Rg_at hR 96 12 0 0 (by decide) rfl) (rg_k (by decide) : rg 0 0 0) (i_ne c1) (by decide)).elim) (fun c1 => ?_)
  have q1 : (i 96 12).toInt = 0 := i_eq c1
  refine lv_iconst (v := 1) hx hb dX9_isGood_7 (by decide) ?_
  refine lv_goto (tgt := 12) hx hb dX9_isGood_8 (by decide) ?_
  exact hret 1 _ _ _ _ _ _ dX9_isGood_12 hT hS ⟨rfl, rfl⟩

set_option maxRecDepth 100000 in
set_option maxHeartbeats 4000000 in
theorem k_X9_isOver {l : Launch} {D : va_G} {h : Nat → Nat} {cz : Nat → ClassId} {i : Nat → Nat → Int32} {g : Nat → Nat → Int64} (hR : Rg rM i)  : CtV l yX9_isOver cX9_isOver 1 none ({ frames := 0, cells := 0, slots := 0, locals := 0 } : Room) D h cz i g [.ref (h 96)] (fun u => Rg rM u.1) := by
  refine k_V pn_X9_isOver (Nat.le_of_ble_eq_true rfl) ?_
  intro p e s m args below meth c ls Q X hret hT hl hS
  have hx := X.1
  have hb := X.2.1
  have hl : lv_has ls 1 [(0, .ref (h 96))] := hl
  refine lv_aload_n hx hb dX9_isOver_0 rfl (lv_at hl 0 rfl) ?_
  refine lv_iconst (v := 0) hx hb dX9_isOver_1 (by decide) ?_
  refine r_puti X hT hS 96 6 pk_9_100 rfl rfl rfl rfl (by decide) dX9_isOver_2 (fun H locs i1 ei1 hT hS => ?_)
  have hR1 := Rg_put hR ei1 0 0 rfl (rg_k (by decide) : rg 0 0 0) (by decide)
  refine lv_aload_n hx hb dX9_isOver_5 rfl (lv_at hl 0 rfl) ?_
  refine lv_aload_n hx hb dX9_isOver_6 rfl (lv_at hl 0 rfl) ?_
  refine r_geti X hT 96 12 fk_9_135 rfl rfl (by decide) dX9_isOver_7 ?_
  refine r_puti X hT hS 96 14 pk_9_162 rfl rfl rfl rfl (by decide) dX9_isOver_10 (fun H locs i2 ei2 hT hS => ?_)
  have hR2 := Rg_put hR1 ei2 0 0 rfl (Rg_at hR1 96 12 0 0 (by decide) rfl) (by decide)
  refine lv_aload_n hx hb dX9_isOver_13 rfl (lv_at hl 0 rfl) ?_
  refine lv_aload_n hx hb dX9_isOver_14 rfl (lv_at hl 0 rfl) ?_
  refine r_geti X hT 96 12 fk_9_135 rfl rfl (by decide) dX9_isOver_15 ?_
  refine lv_if_ne (tgt := 25) hx hb dX9_isOver_18 (by decide) (fun c3 => (x_ne (Rg_at hR2 96 12 0 0 (by decide) rfl) (rg_k (by decide) : rg 0 0 0) (i_ne c3) (by decide)).elim) (fun c3 => ?_)
  have q3 : (i2 96 12).toInt = 0 := i_eq c3
  refine lv_iconst (v := (-1)) hx hb dX9_isOver_21 (by decide) ?_
  refine lv_goto (tgt := 29) hx hb dX9_isOver_22 (by decide) ?_
  refine r_puti X hT hS 96 15 pk_9_27 rfl rfl rfl rfl (by decide) dX9_isOver_29 (fun H locs i4 ei4 hT hS => ?_)
  have hR4 := Rg_put hR2 ei4 (-1) (-1) rfl (rg_k (by decide) : rg (-1) (-1) (-1)) (by decide)
  exact hret _ _ _ _ _ _ dX9_isOver_32 hT hS hR4

set_option maxRecDepth 100000 in
set_option maxHeartbeats 4000000 in
theorem k_M_copyRow_rM_102_1_4_0 {l : Launch} {D : va_G} {h : Nat → Nat} {cz : Nat → ClassId} {i : Nat → Nat → Int32} {g : Nat → Nat → Int64} (hR : Rg rM i) (a_b : Int32) (a_c : Int32) (a_d : Int32) (ha_b : rg 1 1 a_b) (ha_c : rg 4 4 a_c) (ha_d : rg 0 0 a_d) : CtV l yX9_copyRow cX9_copyRow 5 none ({ frames := 0, cells := 0, slots := 0, locals := 0 } : Room) D h cz i g [.ref (h 102), .int a_b, .int a_c, .int a_d] (fun u => Rg rM u.1) := by
  refine k_V pn_X9_copyRow (Nat.le_of_ble_eq_true rfl) ?_
  intro p e s m args below meth c ls Q X hret hT hl hS
  have hx := X.1
  have hb := X.2.1
  have hl : lv_has ls 5 [(0, .ref (h 102)), (1, .int a_b), (2, .int a_c), (3, .int a_d)] := hl
  refine lv_iconst (v := 0) hx hb dX9_copyRow_0 (by decide) ?_
  refine lv_istore (lv' := [(4, .int 0), (0, .ref (h 102)), (1, .int a_b), (2, .int a_c), (3, .int a_d)]) hx hb dX9_copyRow_1 hl (by decide) rfl (fun ls hl => ?_)
  have L3_1 : ∀ (n : Nat) (x3_4 : Int32) (i2 : Nat → Nat → Int32) (g2 : Nat → Nat → Int64) (H : Heap) (locs : List Loc) (ls : Array Slot), rg 0 1 x3_4 → Rg rM i2 → TH D h cz i2 g2 H → va_S (hA h) s.heap H locs → lv_has ls 5 [(0, .ref (h 102)), (1, .int a_b), (2, .int a_c), (3, .int a_d), (4, .int x3_4)] → (1 - x3_4.toInt).toNat < n → W p l e ({ frames := 0, cells := 0, slots := 0, locals := 0 } : Room) s m args below meth c H locs 0 0 Q (F0 m 3 ls []) := by
    intro n
    induction n with
    | zero => intro x3_4 i2 g2 H locs ls hhx3_4 hR2 hT hS hl hm; exact absurd hm (Nat.not_lt_zero _)
    | succ n ih =>
      intro x3_4 i2 g2 H locs ls hhx3_4 hR2 hT hS hl hm
      refine lv_iload hx hb dX9_copyRow_3 (lv_at hl 4 rfl) ?_
      refine lv_iload_n hx hb dX9_copyRow_5 rfl (lv_at hl 1 rfl) ?_
      refine lv_icmp_ge (tgt := 31) hx hb dX9_copyRow_6 (by decide) (fun c3 => ?_) (fun c3 => ?_)
      ·
        have q3 : a_b.toInt ≤ x3_4.toInt := i_le c3
        have h4 : rg 1 1 x3_4 := t_ley 1 1 ha_b hhx3_4 (i_le c3) (by decide)
        exact hret _ _ _ _ _ _ dX9_copyRow_31 hT hS hR2
      ·
        have q3 : x3_4.toInt < a_b.toInt := i_nle c3
        have h5 : rg 0 0 x3_4 := t_ltx 0 0 hhx3_4 ha_b (i_nle c3) (by decide)
        refine lv_aload_n hx hb dX9_copyRow_9 rfl (lv_at hl 0 rfl) ?_
        refine lv_iload_n hx hb dX9_copyRow_10 rfl (lv_at hl 1 rfl) ?_
        refine lv_iload_n hx hb dX9_copyRow_11 rfl (lv_at hl 3 rfl) ?_
        refine q_imul hx hb dX9_copyRow_12 (fun x6 ex6 => ?_)
        obtain ⟨hx6, ax6⟩ := rg_mul 0 0 ex6 ha_b ha_d (by decide)
        refine lv_iload hx hb dX9_copyRow_13 (lv_at hl 4 rfl) ?_
        refine q_iadd hx hb dX9_copyRow_15 (fun x7 ex7 => ?_)
        obtain ⟨hx7, ax7⟩ := rg_add 0 0 ex7 hx6 h5 (by decide)
        refine lv_aload_n hx hb dX9_copyRow_16 rfl (lv_at hl 0 rfl) ?_
        refine lv_iload_n hx hb dX9_copyRow_17 rfl (lv_at hl 1 rfl) ?_
        refine lv_iload_n hx hb dX9_copyRow_18 rfl (lv_at hl 2 rfl) ?_
        refine q_imul hx hb dX9_copyRow_19 (fun x8 ex8 => ?_)
        obtain ⟨hx8, ax8⟩ := rg_mul 4 4 ex8 ha_b ha_c (by decide)
        refine lv_iload hx hb dX9_copyRow_20 (lv_at hl 4 rfl) ?_
        refine q_iadd hx hb dX9_copyRow_22 (fun x9 ex9 => ?_)
        obtain ⟨hx9, ax9⟩ := rg_add 4 4 ex9 hx8 h5 (by decide)
        refine r_iald X hT 102 rfl (by decide) (v_in hx9 (by decide)) dX9_copyRow_23 ?_
        refine r_iast X hT hS 102 rfl (by decide) (v_in hx7 (by decide)) dX9_copyRow_24 (fun H locs i10 ei10 hT hS => ?_)
        have hR10 := Rg_put hR2 ei10 0 0 rfl (Rg_at hR2 102 x9.toNatClampNeg 0 0 (v_lt (v_in hx9 (by decide))) rfl) (by decide)
        obtain ⟨x11, ex11⟩ : ∃ y : Int32, y = x3_4 + 1 := ⟨_, rfl⟩
        refine lv_iinc (v := x11) (lv' := [(4, .int x11), (0, .ref (h 102)), (1, .int a_b), (2, .int a_c), (3, .int a_d)]) hx hb dX9_copyRow_25 hl (k := 4) rfl (by rw [ex11]; rfl) (by decide) rfl (fun ls hl => ?_)
        obtain ⟨hx11, ax11⟩ := rg_add 1 1 ex11 h5 (rg_k (by decide) : rg 1 1 1) (by decide)
        replace ax11 : x11.toInt = x3_4.toInt + 1 := ax11
        refine lv_goto (tgt := 3) hx hb dX9_copyRow_28 (by decide) ?_
        exact ih x11 _ _ _ _ _ (rg_w hx11 (by decide) : rg 0 1 x11) hR10 hT hS (lv_sub hl [1, 2, 3, 4, 0] rfl) (m_up ax11 hx11 (by decide) hm)
  exact L3_1 _ 0 _ _ _ _ _ (rg_w (rg_k (by decide) : rg 0 0 0) (by decide) : rg 0 1 0) hR hT hS (lv_sub hl [1, 2, 3, 4, 0] rfl) (Nat.lt_succ_self _)

set_option maxRecDepth 100000 in
set_option maxHeartbeats 4000000 in
theorem k_M_copyRow_rM_103_7_4_0 {l : Launch} {D : va_G} {h : Nat → Nat} {cz : Nat → ClassId} {i : Nat → Nat → Int32} {g : Nat → Nat → Int64} (hR : Rg rM i) (a_b : Int32) (a_c : Int32) (a_d : Int32) (ha_b : rg 7 7 a_b) (ha_c : rg 4 4 a_c) (ha_d : rg 0 0 a_d) : CtV l yX9_copyRow cX9_copyRow 5 none ({ frames := 0, cells := 0, slots := 0, locals := 0 } : Room) D h cz i g [.ref (h 103), .int a_b, .int a_c, .int a_d] (fun u => Rg rM u.1) := by
  refine k_V pn_X9_copyRow (Nat.le_of_ble_eq_true rfl) ?_
  intro p e s m args below meth c ls Q X hret hT hl hS
  have hx := X.1
  have hb := X.2.1
  have hl : lv_has ls 5 [(0, .ref (h 103)), (1, .int a_b), (2, .int a_c), (3, .int a_d)] := hl
  refine lv_iconst (v := 0) hx hb dX9_copyRow_0 (by decide) ?_
  refine lv_istore (lv' := [(4, .int 0), (0, .ref (h 103)), (1, .int a_b), (2, .int a_c), (3, .int a_d)]) hx hb dX9_copyRow_1 hl (by decide) rfl (fun ls hl => ?_)
  have L3_1 : ∀ (n : Nat) (x3_4 : Int32) (i2 : Nat → Nat → Int32) (g2 : Nat → Nat → Int64) (H : Heap) (locs : List Loc) (ls : Array Slot), rg 0 7 x3_4 → Rg rM i2 → TH D h cz i2 g2 H → va_S (hA h) s.heap H locs → lv_has ls 5 [(0, .ref (h 103)), (1, .int a_b), (2, .int a_c), (3, .int a_d), (4, .int x3_4)] → (7 - x3_4.toInt).toNat < n → W p l e ({ frames := 0, cells := 0, slots := 0, locals := 0 } : Room) s m args below meth c H locs 0 0 Q (F0 m 3 ls []) := by
    intro n
    induction n with
    | zero => intro x3_4 i2 g2 H locs ls hhx3_4 hR2 hT hS hl hm; exact absurd hm (Nat.not_lt_zero _)
    | succ n ih =>
      intro x3_4 i2 g2 H locs ls hhx3_4 hR2 hT hS hl hm
      refine lv_iload hx hb dX9_copyRow_3 (lv_at hl 4 rfl) ?_
      refine lv_iload_n hx hb dX9_copyRow_5 rfl (lv_at hl 1 rfl) ?_
      refine lv_icmp_ge (tgt := 31) hx hb dX9_copyRow_6 (by decide) (fun c3 => ?_) (fun c3 => ?_)
      ·
        have q3 : a_b.toInt ≤ x3_4.toInt := i_le c3
        have h4 : rg 7 7 x3_4 := t_ley 7 7 ha_b hhx3_4 (i_le c3) (by decide)
        exact hret _ _ _ _ _ _ dX9_copyRow_31 hT hS hR2
      ·
        have q3 : x3_4.toInt < a_b.toInt := i_nle c3
        have h5 : rg 0 6 x3_4 := t_ltx 0 6 hhx3_4 ha_b (i_nle c3) (by decide)
        refine lv_aload_n hx hb dX9_copyRow_9 rfl (lv_at hl 0 rfl) ?_
        refine lv_iload_n hx hb dX9_copyRow_10 rfl (lv_at hl 1 rfl) ?_
        refine lv_iload_n hx hb dX9_copyRow_11 rfl (lv_at hl 3 rfl) ?_
        refine q_imul hx hb dX9_copyRow_12 (fun x6 ex6 => ?_)
        obtain ⟨hx6, ax6⟩ := rg_mul 0 0 ex6 ha_b ha_d (by decide)
        refine lv_iload hx hb dX9_copyRow_13 (lv_at hl 4 rfl) ?_
        refine q_iadd hx hb dX9_copyRow_15 (fun x7 ex7 => ?_)
        obtain ⟨hx7, ax7⟩ := rg_add 0 6 ex7 hx6 h5 (by decide)
        refine lv_aload_n hx hb dX9_copyRow_16 rfl (lv_at hl 0 rfl) ?_
        refine lv_iload_n hx hb dX9_copyRow_17 rfl (lv_at hl 1 rfl) ?_
        refine lv_iload_n hx hb dX9_copyRow_18 rfl (lv_at hl 2 rfl) ?_
        refine q_imul hx hb dX9_copyRow_19 (fun x8 ex8 => ?_)
        obtain ⟨hx8, ax8⟩ := rg_mul 28 28 ex8 ha_b ha_c (by decide)
        refine lv_iload hx hb dX9_copyRow_20 (lv_at hl 4 rfl) ?_
        refine q_iadd hx hb dX9_copyRow_22 (fun x9 ex9 => ?_)
        obtain ⟨hx9, ax9⟩ := rg_add 28 34 ex9 hx8 h5 (by decide)
        refine r_iald X hT 103 rfl (by decide) (v_in hx9 (by decide)) dX9_copyRow_23 ?_
        refine r_iast X hT hS 103 rfl (by decide) (v_in hx7 (by decide)) dX9_copyRow_24 (fun H locs i10 ei10 hT hS => ?_)
        have hR10 := Rg_put hR2 ei10 0 0 rfl (Rg_at hR2 103 x9.toNatClampNeg 0 0 (v_lt (v_in hx9 (by decide))) rfl) (by decide)
        obtain ⟨x11, ex11⟩ : ∃ y : Int32, y = x3_4 + 1 := ⟨_, rfl⟩
        refine lv_iinc (v := x11) (lv' := [(4, .int x11), (0, .ref (h 103)), (1, .int a_b), (2, .int a_c), (3, .int a_d)]) hx hb dX9_copyRow_25 hl (k := 4) rfl (by rw [ex11]; rfl) (by decide) rfl (fun ls hl => ?_)
        obtain ⟨hx11, ax11⟩ := rg_add 1 7 ex11 h5 (rg_k (by decide) : rg 1 1 1) (by decide)
        replace ax11 : x11.toInt = x3_4.toInt + 1 := ax11
        refine lv_goto (tgt := 3) hx hb dX9_copyRow_28 (by decide) ?_
        exact ih x11 _ _ _ _ _ (rg_w hx11 (by decide) : rg 0 7 x11) hR10 hT hS (lv_sub hl [1, 2, 3, 4, 0] rfl) (m_up ax11 hx11 (by decide) hm)
  exact L3_1 _ 0 _ _ _ _ _ (rg_w (rg_k (by decide) : rg 0 0 0) (by decide) : rg 0 7 0) hR hT hS (lv_sub hl [1, 2, 3, 4, 0] rfl) (Nat.lt_succ_self _)

set_option maxRecDepth 100000 in
set_option maxHeartbeats 4000000 in
theorem k_M_copyRow_rM_104_18_4_0 {l : Launch} {D : va_G} {h : Nat → Nat} {cz : Nat → ClassId} {i : Nat → Nat → Int32} {g : Nat → Nat → Int64} (hR : Rg rM i) (a_b : Int32) (a_c : Int32) (a_d : Int32) (ha_b : rg 18 18 a_b) (ha_c : rg 4 4 a_c) (ha_d : rg 0 0 a_d) : CtV l yX9_copyRow cX9_copyRow 5 none ({ frames := 0, cells := 0, slots := 0, locals := 0 } : Room) D h cz i g [.ref (h 104), .int a_b, .int a_c, .int a_d] (fun u => Rg rM u.1) := by
  refine k_V pn_X9_copyRow (Nat.le_of_ble_eq_true rfl) ?_
  intro p e s m args below meth c ls Q X hret hT hl hS
  have hx := X.1
  have hb := X.2.1
  have hl : lv_has ls 5 [(0, .ref (h 104)), (1, .int a_b), (2, .int a_c), (3, .int a_d)] := hl
  refine lv_iconst (v := 0) hx hb dX9_copyRow_0 (by decide) ?_
  refine lv_istore (lv' := [(4, .int 0), (0, .ref (h 104)), (1, .int a_b), (2, .int a_c), (3, .int a_d)]) hx hb dX9_copyRow_1 hl (by decide) rfl (fun ls hl => ?_)
  have L3_1 : ∀ (n : Nat) (x3_4 : Int32) (i2 : Nat → Nat → Int32) (g2 : Nat → Nat → Int64) (H : Heap) (locs : List Loc) (ls : Array Slot), rg 0 20 x3_4 → Rg rM i2 → TH D h cz i2 g2 H → va_S (hA h) s.heap H locs → lv_has ls 5 [(0, .ref (h 104)), (1, .int a_b), (2, .int a_c), (3, .int a_d), (4, .int x3_4)] → (20 - x3_4.toInt).toNat < n → W p l e ({ frames := 0, cells := 0, slots := 0, locals := 0 } : Room) s m args below meth c H locs 0 0 Q (F0 m 3 ls []) := by
    intro n
    induction n with
    | zero => intro x3_4 i2 g2 H locs ls hhx3_4 hR2 hT hS hl hm; exact absurd hm (Nat.not_lt_zero _)
    | succ n ih =>
      intro x3_4 i2 g2 H locs ls hhx3_4 hR2 hT hS hl hm
      refine lv_iload hx hb dX9_copyRow_3 (lv_at hl 4 rfl) ?_
      refine lv_iload_n hx hb dX9_copyRow_5 rfl (lv_at hl 1 rfl) ?_
      refine lv_icmp_ge (tgt := 31) hx hb dX9_copyRow_6 (by decide) (fun c3 => ?_) (fun c3 => ?_)
      ·
        have q3 : a_b.toInt ≤ x3_4.toInt := i_le c3
        have h4 : rg 18 20 x3_4 := t_ley 18 20 ha_b hhx3_4 (i_le c3) (by decide)
        exact hret _ _ _ _ _ _ dX9_copyRow_31 hT hS hR2
      ·
        have q3 : x3_4.toInt < a_b.toInt := i_nle c3
        have h5 : rg 0 17 x3_4 := t_ltx 0 17 hhx3_4 ha_b (i_nle c3) (by decide)
        refine lv_aload_n hx hb dX9_copyRow_9 rfl (lv_at hl 0 rfl) ?_
        refine lv_iload_n hx hb dX9_copyRow_10 rfl (lv_at hl 1 rfl) ?_
        refine lv_iload_n hx hb dX9_copyRow_11 rfl (lv_at hl 3 rfl) ?_
        refine q_imul hx hb dX9_copyRow_12 (fun x6 ex6 => ?_)
        obtain ⟨hx6, ax6⟩ := rg_mul 0 0 ex6 ha_b ha_d (by decide)
        refine lv_iload hx hb dX9_copyRow_13 (lv_at hl 4 rfl) ?_
        refine q_iadd hx hb dX9_copyRow_15 (fun x7 ex7 => ?_)
        obtain ⟨hx7, ax7⟩ := rg_add 0 17 ex7 hx6 h5 (by decide)
        refine lv_aload_n hx hb dX9_copyRow_16 rfl (lv_at hl 0 rfl) ?_
        refine lv_iload_n hx hb dX9_copyRow_17 rfl (lv_at hl 1 rfl) ?_
        refine lv_iload_n hx hb dX9_copyRow_18 rfl (lv_at hl 2 rfl) ?_
        refine q_imul hx hb dX9_copyRow_19 (fun x8 ex8 => ?_)
        obtain ⟨hx8, ax8⟩ := rg_mul 72 72 ex8 ha_b ha_c (by decide)
        refine lv_iload hx hb dX9_copyRow_20 (lv_at hl 4 rfl) ?_
        refine q_iadd hx hb dX9_copyRow_22 (fun x9 ex9 => ?_)
        obtain ⟨hx9, ax9⟩ := rg_add 72 89 ex9 hx8 h5 (by decide)
        refine r_iald X hT 104 rfl (by decide) (v_in hx9 (by decide)) dX9_copyRow_23 ?_
        refine r_iast X hT hS 104 rfl (by decide) (v_in hx7 (by decide)) dX9_copyRow_24 (fun H locs i10 ei10 hT hS => ?_)
        have hR10 := Rg_put hR2 ei10 0 0 rfl (Rg_at hR2 104 x9.toNatClampNeg 0 0 (v_lt (v_in hx9 (by decide))) rfl) (by decide)
        obtain ⟨x11, ex11⟩ : ∃ y : Int32, y = x3_4 + 1 := ⟨_, rfl⟩
        refine lv_iinc (v := x11) (lv' := [(4, .int x11), (0, .ref (h 104)), (1, .int a_b), (2, .int a_c), (3, .int a_d)]) hx hb dX9_copyRow_25 hl (k := 4) rfl (by rw [ex11]; rfl) (by decide) rfl (fun ls hl => ?_)
        obtain ⟨hx11, ax11⟩ := rg_add 1 18 ex11 h5 (rg_k (by decide) : rg 1 1 1) (by decide)
        replace ax11 : x11.toInt = x3_4.toInt + 1 := ax11
        refine lv_goto (tgt := 3) hx hb dX9_copyRow_28 (by decide) ?_
        exact ih x11 _ _ _ _ _ (rg_w hx11 (by decide) : rg 0 20 x11) hR10 hT hS (lv_sub hl [1, 2, 3, 4, 0] rfl) (m_up ax11 hx11 (by decide) hm)
  exact L3_1 _ 0 _ _ _ _ _ (rg_w (rg_k (by decide) : rg 0 0 0) (by decide) : rg 0 20 0) hR hT hS (lv_sub hl [1, 2, 3, 4, 0] rfl) (Nat.lt_succ_self _)

set_option maxRecDepth 100000 in
set_option maxHeartbeats 4000000 in
theorem k_M_copyRow_rM_105_20_4_0 {l : Launch} {D : va_G} {h : Nat → Nat} {cz : Nat → ClassId} {i : Nat → Nat → Int32} {g : Nat → Nat → Int64} (hR : Rg rM i) (a_b : Int32) (a_c : Int32) (a_d : Int32) (ha_b : rg 20 20 a_b) (ha_c : rg 4 4 a_c) (ha_d : rg 0 0 a_d) : CtV l yX9_copyRow cX9_copyRow 5 none ({ frames := 0, cells := 0, slots := 0, locals := 0 } : Room) D h cz i g [.ref (h 105), .int a_b, .int a_c, .int a_d] (fun u => Rg rM u.1) := by
  refine k_V pn_X9_copyRow (Nat.le_of_ble_eq_true rfl) ?_
  intro p e s m args below meth c ls Q X hret hT hl hS
  have hx := X.1
  have hb := X.2.1
  have hl : lv_has ls 5 [(0, .ref (h 105)), (1, .int a_b), (2, .int a_c), (3, .int a_d)] := hl
  refine lv_iconst (v := 0) hx hb dX9_copyRow_0 (by decide) ?_
  refine lv_istore (lv' := [(4, .int 0), (0, .ref (h 105)), (1, .int a_b), (2, .int a_c), (3, .int a_d)]) hx hb dX9_copyRow_1 hl (by decide) rfl (fun ls hl => ?_)
  have L3_1 : ∀ (n : Nat) (x3_4 : Int32) (i2 : Nat → Nat → Int32) (g2 : Nat → Nat → Int64) (H : Heap) (locs : List Loc) (ls : Array Slot), rg 0 20 x3_4 → Rg rM i2 → TH D h cz i2 g2 H → va_S (hA h) s.heap H locs → lv_has ls 5 [(0, .ref (h 105)), (1, .int a_b), (2, .int a_c), (3, .int a_d), (4, .int x3_4)] → (20 - x3_4.toInt).toNat < n → W p l e ({ frames := 0, cells := 0, slots := 0, locals := 0 } : Room) s m args below meth c H locs 0 0 Q (F0 m 3 ls []) := by
    intro n
    induction n with
    | zero => intro x3_4 i2 g2 H locs ls hhx3_4 hR2 hT hS hl hm; exact absurd hm (Nat.not_lt_zero _)
    | succ n ih =>
      intro x3_4 i2 g2 H locs ls hhx3_4 hR2 hT hS hl hm
      refine lv_iload hx hb dX9_copyRow_3 (lv_at hl 4 rfl) ?_
      refine lv_iload_n hx hb dX9_copyRow_5 rfl (lv_at hl 1 rfl) ?_
      refine lv_icmp_ge (tgt := 31) hx hb dX9_copyRow_6 (by decide) (fun c3 => ?_) (fun c3 => ?_)
      ·
        have q3 : a_b.toInt ≤ x3_4.toInt := i_le c3
        have h4 : rg 20 20 x3_4 := t_ley 20 20 ha_b hhx3_4 (i_le c3) (by decide)
        exact hret _ _ _ _ _ _ dX9_copyRow_31 hT hS hR2
      ·
        have q3 : x3_4.toInt < a_b.toInt := i_nle c3
        have h5 : rg 0 19 x3_4 := t_ltx 0 19 hhx3_4 ha_b (i_nle c3) (by decide)
        refine lv_aload_n hx hb dX9_copyRow_9 rfl (lv_at hl 0 rfl) ?_
        refine lv_iload_n hx hb dX9_copyRow_10 rfl (lv_at hl 1 rfl) ?_
        refine lv_iload_n hx hb dX9_copyRow_11 rfl (lv_at hl 3 rfl) ?_
        refine q_imul hx hb dX9_copyRow_12 (fun x6 ex6 => ?_)
        obtain ⟨hx6, ax6⟩ := rg_mul 0 0 ex6 ha_b ha_d (by decide)
        refine lv_iload hx hb dX9_copyRow_13 (lv_at hl 4 rfl) ?_
        refine q_iadd hx hb dX9_copyRow_15 (fun x7 ex7 => ?_)
        obtain ⟨hx7, ax7⟩ := rg_add 0 19 ex7 hx6 h5 (by decide)
        refine lv_aload_n hx hb dX9_copyRow_16 rfl (lv_at hl 0 rfl) ?_
        refine lv_iload_n hx hb dX9_copyRow_17 rfl (lv_at hl 1 rfl) ?_
        refine lv_iload_n hx hb dX9_copyRow_18 rfl (lv_at hl 2 rfl) ?_
        refine q_imul hx hb dX9_copyRow_19 (fun x8 ex8 => ?_)
        obtain ⟨hx8, ax8⟩ := rg_mul 80 80 ex8 ha_b ha_c (by decide)
        refine lv_iload hx hb dX9_copyRow_20 (lv_at hl 4 rfl) ?_
        refine q_iadd hx hb dX9_copyRow_22 (fun x9 ex9 => ?_)
        obtain ⟨hx9, ax9⟩ := rg_add 80 99 ex9 hx8 h5 (by decide)
        refine r_iald X hT 105 rfl (by decide) (v_in hx9 (by decide)) dX9_copyRow_23 ?_
        refine r_iast X hT hS 105 rfl (by decide) (v_in hx7 (by decide)) dX9_copyRow_24 (fun H locs i10 ei10 hT hS => ?_)
        have hR10 := Rg_put hR2 ei10 0 0 rfl (Rg_at hR2 105 x9.toNatClampNeg 0 0 (v_lt (v_in hx9 (by decide))) rfl) (by decide)
        obtain ⟨x11, ex11⟩ : ∃ y : Int32, y = x3_4 + 1 := ⟨_, rfl⟩
        refine lv_iinc (v := x11) (lv' := [(4, .int x11), (0, .ref (h 105)), (1, .int a_b), (2, .int a_c), (3, .int a_d)]) hx hb dX9_copyRow_25 hl (k := 4) rfl (by rw [ex11]; rfl) (by decide) rfl (fun ls hl => ?_)
        obtain ⟨hx11, ax11⟩ := rg_add 1 20 ex11 h5 (rg_k (by decide) : rg 1 1 1) (by decide)
        replace ax11 : x11.toInt = x3_4.toInt + 1 := ax11
        refine lv_goto (tgt := 3) hx hb dX9_copyRow_28 (by decide) ?_
        exact ih x11 _ _ _ _ _ (rg_w hx11 (by decide) : rg 0 20 x11) hR10 hT hS (lv_sub hl [1, 2, 3, 4, 0] rfl) (m_up ax11 hx11 (by decide) hm)
  exact L3_1 _ 0 _ _ _ _ _ (rg_w (rg_k (by decide) : rg 0 0 0) (by decide) : rg 0 20 0) hR hT hS (lv_sub hl [1, 2, 3, 4, 0] rfl) (Nat.lt_succ_self _)

set_option maxRecDepth 100000 in
set_option maxHeartbeats 4000000 in
theorem k_M_copyRow_rM_106_16_4_0 {l : Launch} {D : va_G} {h : Nat → Nat} {cz : Nat → ClassId} {i : Nat → Nat → Int32} {g : Nat → Nat → Int64} (hR : Rg rM i) (a_b : Int32) (a_c : Int32) (a_d : Int32) (ha_b : rg 16 16 a_b) (ha_c : rg 4 4 a_c) (ha_d : rg 0 0 a_d) : CtV l yX9_copyRow cX9_copyRow 5 none ({ frames := 0, cells := 0, slots := 0, locals := 0 } : Room) D h cz i g [.ref (h 106), .int a_b, .int a_c, .int a_d] (fun u => Rg rM u.1) := by
  refine k_V pn_X9_copyRow (Nat.le_of_ble_eq_true rfl) ?_
  intro p e s m args below meth c ls Q X hret hT hl hS
  have hx := X.1
  have hb := X.2.1
  have hl : lv_has ls 5 [(0, .ref (h 106)), (1, .int a_b), (2, .int a_c), (3, .int a_d)] := hl
  refine lv_iconst (v := 0) hx hb dX9_copyRow_0 (by decide) ?_
  refine lv_istore (lv' := [(4, .int 0), (0, .ref (h 106)), (1, .int a_b), (2, .int a_c), (3, .int a_d)]) hx hb dX9_copyRow_1 hl (by decide) rfl (fun ls hl => ?_)
  have L3_1 : ∀ (n : Nat) (x3_4 : Int32) (i2 : Nat → Nat → Int32) (g2 : Nat → Nat → Int64) (H : Heap) (locs : List Loc) (ls : Array Slot), rg 0 20 x3_4 → Rg rM i2 → TH D h cz i2 g2 H → va_S (hA h) s.heap H locs → lv_has ls 5 [(0, .ref (h 106)), (1, .int a_b), (2, .int a_c), (3, .int a_d), (4, .int x3_4)] → (20 - x3_4.toInt).toNat < n → W p l e ({ frames := 0, cells := 0, slots := 0, locals := 0 } : Room) s m args below meth c H locs 0 0 Q (F0 m 3 ls []) := by
    intro n
    induction n with
    | zero => intro x3_4 i2 g2 H locs ls hhx3_4 hR2 hT hS hl hm; exact absurd hm (Nat.not_lt_zero _)
    | succ n ih =>
      intro x3_4 i2 g2 H locs ls hhx3_4 hR2 hT hS hl hm
      refine lv_iload hx hb dX9_copyRow_3 (lv_at hl 4 rfl) ?_
      refine lv_iload_n hx hb dX9_copyRow_5 rfl (lv_at hl 1 rfl) ?_
      refine lv_icmp_ge (tgt := 31) hx hb dX9_copyRow_6 (by decide) (fun c3 => ?_) (fun c3 => ?_)
      ·
        have q3 : a_b.toInt ≤ x3_4.toInt := i_le c3
        have h4 : rg 16 20 x3_4 := t_ley 16 20 ha_b hhx3_4 (i_le c3) (by decide)
        exact hret _ _ _ _ _ _ dX9_copyRow_31 hT hS hR2
      ·
        have q3 : x3_4.toInt < a_b.toInt := i_nle c3
        have h5 : rg 0 15 x3_4 := t_ltx 0 15 hhx3_4 ha_b (i_nle c3) (by decide)
        refine lv_aload_n hx hb dX9_copyRow_9 rfl (lv_at hl 0 rfl) ?_
        refine lv_iload_n hx hb dX9_copyRow_10 rfl (lv_at hl 1 rfl) ?_
        refine lv_iload_n hx hb dX9_copyRow_11 rfl (lv_at hl 3 rfl) ?_
        refine q_imul hx hb dX9_copyRow_12 (fun x6 ex6 => ?_)
        obtain ⟨hx6, ax6⟩ := rg_mul 0 0 ex6 ha_b ha_d (by decide)
        refine lv_iload hx hb dX9_copyRow_13 (lv_at hl 4 rfl) ?_
        refine q_iadd hx hb dX9_copyRow_15 (fun x7 ex7 => ?_)
        obtain ⟨hx7, ax7⟩ := rg_add 0 15 ex7 hx6 h5 (by decide)
        refine lv_aload_n hx hb dX9_copyRow_16 rfl (lv_at hl 0 rfl) ?_
        refine lv_iload_n hx hb dX9_copyRow_17 rfl (lv_at hl 1 rfl) ?_
        refine lv_iload_n hx hb dX9_copyRow_18 rfl (lv_at hl 2 rfl) ?_
        refine q_imul hx hb dX9_copyRow_19 (fun x8 ex8 => ?_)
        obtain ⟨hx8, ax8⟩ := rg_mul 64 64 ex8 ha_b ha_c (by decide)
        refine lv_iload hx hb dX9_copyRow_20 (lv_at hl 4 rfl) ?_
        refine q_iadd hx hb dX9_copyRow_22 (fun x9 ex9 => ?_)
        obtain ⟨hx9, ax9⟩ := rg_add 64 79 ex9 hx8 h5 (by decide)
        refine r_iald X hT 106 rfl (by decide) (v_in hx9 (by decide)) dX9_copyRow_23 ?_
        refine r_iast X hT hS 106 rfl (by decide) (v_in hx7 (by decide)) dX9_copyRow_24 (fun H locs i10 ei10 hT hS => ?_)
        have hR10 := Rg_put hR2 ei10 0 0 rfl (Rg_at hR2 106 x9.toNatClampNeg 0 0 (v_lt (v_in hx9 (by decide))) rfl) (by decide)
        obtain ⟨x11, ex11⟩ : ∃ y : Int32, y = x3_4 + 1 := ⟨_, rfl⟩
        refine lv_iinc (v := x11) (lv' := [(4, .int x11), (0, .ref (h 106)), (1, .int a_b), (2, .int a_c), (3, .int a_d)]) hx hb dX9_copyRow_25 hl (k := 4) rfl (by rw [ex11]; rfl) (by decide) rfl (fun ls hl => ?_)
        obtain ⟨hx11, ax11⟩ := rg_add 1 16 ex11 h5 (rg_k (by decide) : rg 1 1 1) (by decide)
        replace ax11 : x11.toInt = x3_4.toInt + 1 := ax11
        refine lv_goto (tgt := 3) hx hb dX9_copyRow_28 (by decide) ?_
        exact ih x11 _ _ _ _ _ (rg_w hx11 (by decide) : rg 0 20 x11) hR10 hT hS (lv_sub hl [1, 2, 3, 4, 0] rfl) (m_up ax11 hx11 (by decide) hm)
  exact L3_1 _ 0 _ _ _ _ _ (rg_w (rg_k (by decide) : rg 0 0 0) (by decide) : rg 0 20 0) hR hT hS (lv_sub hl [1, 2, 3, 4, 0] rfl) (Nat.lt_succ_self _)

set_option maxRecDepth 100000 in
set_option maxHeartbeats 4000000 in
theorem k_M_copyRow_rM_107_60_4_0 {l : Launch} {D : va_G} {h : Nat → Nat} {cz : Nat → ClassId} {i : Nat → Nat → Int32} {g : Nat → Nat → Int64} (hR : Rg rM i) (a_b : Int32) (a_c : Int32) (a_d : Int32) (ha_b : rg 60 60 a_b) (ha_c : rg 4 4 a_c) (ha_d : rg 0 0 a_d) : CtV l yX9_copyRow cX9_copyRow 5 none ({ frames := 0, cells := 0, slots := 0, locals := 0 } : Room) D h cz i g [.ref (h 107), .int a_b, .int a_c, .int a_d] (fun u => Rg rM u.1) := by
  refine k_V pn_X9_copyRow (Nat.le_of_ble_eq_true rfl) ?_
  intro p e s m args below meth c ls Q X hret hT hl hS
  have hx := X.1
  have hb := X.2.1
  have hl : lv_has ls 5 [(0, .ref (h 107)), (1, .int a_b), (2, .int a_c), (3, .int a_d)] := hl
  refine lv_iconst (v := 0) hx hb dX9_copyRow_0 (by decide) ?_
  refine lv_istore (lv' := [(4, .int 0), (0, .ref (h 107)), (1, .int a_b), (2, .int a_c), (3, .int a_d)]) hx hb dX9_copyRow_1 hl (by decide) rfl (fun ls hl => ?_)
  have L3_1 : ∀ (n : Nat) (x3_4 : Int32) (i2 : Nat → Nat → Int32) (g2 : Nat → Nat → Int64) (H : Heap) (locs : List Loc) (ls : Array Slot), rg 0 60 x3_4 → Rg rM i2 → TH D h cz i2 g2 H → va_S (hA h) s.heap H locs → lv_has ls 5 [(0, .ref (h 107)), (1, .int a_b), (2, .int a_c), (3, .int a_d), (4, .int x3_4)] → (60 - x3_4.toInt).toNat < n → W p l e ({ frames := 0, cells := 0, slots := 0, locals := 0 } : Room) s m args below meth c H locs 0 0 Q (F0 m 3 ls []) := by
    intro n
    induction n with
    | zero => intro x3_4 i2 g2 H locs ls hhx3_4 hR2 hT hS hl hm; exact absurd hm (Nat.not_lt_zero _)
    | succ n ih =>
      intro x3_4 i2 g2 H locs ls hhx3_4 hR2 hT hS hl hm
      refine lv_iload hx hb dX9_copyRow_3 (lv_at hl 4 rfl) ?_
      refine lv_iload_n hx hb dX9_copyRow_5 rfl (lv_at hl 1 rfl) ?_
      refine lv_icmp_ge (tgt := 31) hx hb dX9_copyRow_6 (by decide) (fun c3 => ?_) (fun c3 => ?_)
      ·
        have q3 : a_b.toInt ≤ x3_4.toInt := i_le c3
        have h4 : rg 60 60 x3_4 := t_ley 60 60 ha_b hhx3_4 (i_le c3) (by decide)
        exact hret _ _ _ _ _ _ dX9_copyRow_31 hT hS hR2
      ·
        have q3 : x3_4.toInt < a_b.toInt := i_nle c3
        have h5 : rg 0 59 x3_4 := t_ltx 0 59 hhx3_4 ha_b (i_nle c3) (by decide)
        refine lv_aload_n hx hb dX9_copyRow_9 rfl (lv_at hl 0 rfl) ?_
        refine lv_iload_n hx hb dX9_copyRow_10 rfl (lv_at hl 1 rfl) ?_
        refine lv_iload_n hx hb dX9_copyRow_11 rfl (lv_at hl 3 rfl) ?_
        refine q_imul hx hb dX9_copyRow_12 (fun x6 ex6 => ?_)
        obtain ⟨hx6, ax6⟩ := rg_mul 0 0 ex6 ha_b ha_d (by decide)
        refine lv_iload hx hb dX9_copyRow_13 (lv_at hl 4 rfl) ?_
        refine q_iadd hx hb dX9_copyRow_15 (fun x7 ex7 => ?_)
        obtain ⟨hx7, ax7⟩ := rg_add 0 59 ex7 hx6 h5 (by decide)
        refine lv_aload_n hx hb dX9_copyRow_16 rfl (lv_at hl 0 rfl) ?_
        refine lv_iload_n hx hb dX9_copyRow_17 rfl (lv_at hl 1 rfl) ?_
        refine lv_iload_n hx hb dX9_copyRow_18 rfl (lv_at hl 2 rfl) ?_
        refine q_imul hx hb dX9_copyRow_19 (fun x8 ex8 => ?_)
        obtain ⟨hx8, ax8⟩ := rg_mul 240 240 ex8 ha_b ha_c (by decide)
        refine lv_iload hx hb dX9_copyRow_20 (lv_at hl 4 rfl) ?_
        refine q_iadd hx hb dX9_copyRow_22 (fun x9 ex9 => ?_)
        obtain ⟨hx9, ax9⟩ := rg_add 240 299 ex9 hx8 h5 (by decide)
        refine r_iald X hT 107 rfl (by decide) (v_in hx9 (by decide)) dX9_copyRow_23 ?_
        refine r_iast X hT hS 107 rfl (by decide) (v_in hx7 (by decide)) dX9_copyRow_24 (fun H locs i10 ei10 hT hS => ?_)
        have hR10 := Rg_put hR2 ei10 0 0 rfl (Rg_at hR2 107 x9.toNatClampNeg 0 0 (v_lt (v_in hx9 (by decide))) rfl) (by decide)
        obtain ⟨x11, ex11⟩ : ∃ y : Int32, y = x3_4 + 1 := ⟨_, rfl⟩
        refine lv_iinc (v := x11) (lv' := [(4, .int x11), (0, .ref (h 107)), (1, .int a_b), (2, .int a_c), (3, .int a_d)]) hx hb dX9_copyRow_25 hl (k := 4) rfl (by rw [ex11]; rfl) (by decide) rfl (fun ls hl => ?_)
        obtain ⟨hx11, ax11⟩ := rg_add 1 60 ex11 h5 (rg_k (by decide) : rg 1 1 1) (by decide)
        replace ax11 : x11.toInt = x3_4.toInt + 1 := ax11
        refine lv_goto (tgt := 3) hx hb dX9_copyRow_28 (by decide) ?_
        exact ih x11 _ _ _ _ _ (rg_w hx11 (by decide) : rg 0 60 x11) hR10 hT hS (lv_sub hl [1, 2, 3, 4, 0] rfl) (m_up ax11 hx11 (by decide) hm)
  exact L3_1 _ 0 _ _ _ _ _ (rg_w (rg_k (by decide) : rg 0 0 0) (by decide) : rg 0 60 0) hR hT hS (lv_sub hl [1, 2, 3, 4, 0] rfl) (Nat.lt_succ_self _)

set_option maxRecDepth 100000 in
set_option maxHeartbeats 4000000 in
theorem k_M_copyTale_rM_4_0 {l : Launch} {D : va_G} {h : Nat → Nat} {cz : Nat → ClassId} {i : Nat → Nat → Int32} {g : Nat → Nat → Int64} (hR : Rg rM i) (a_a : Int32) (a_b : Int32) (ha_a : rg 4 4 a_a) (ha_b : rg 0 0 a_b) : CtV l yX9_copyTale cX9_copyTale 3 none ({ frames := 1, cells := 0, slots := 0, locals := 24 } : Room) D h cz i g [.ref (h 96), .int a_a, .int a_b] (fun u => Rg rM u.1) := by
  refine k_V pn_X9_copyTale (Nat.le_of_ble_eq_true rfl) ?_
  intro p e s m args below meth c ls Q X hret hT hl hS
  have hx := X.1
  have hb := X.2.1
  have hl : lv_has ls 3 [(0, .ref (h 96)), (1, .int a_a), (2, .int a_b)] := hl
  refine lv_aload_n hx hb dX9_copyTale_0 rfl (lv_at hl 0 rfl) ?_
  refine r_getr X hT 96 16 102 fk_9_31 rfl rfl (by decide) dX9_copyTale_1 ?_
  refine lv_iconst (v := 1) hx hb dX9_copyTale_4 (by decide) ?_
  refine lv_iload_n hx hb dX9_copyTale_5 rfl (lv_at hl 1 rfl) ?_
  refine lv_iload_n hx hb dX9_copyTale_6 rfl (lv_at hl 2 rfl) ?_
  refine r_Sv (As := [.ref (h 102), .int 1, .int a_a, .int a_b]) (rest := []) X hT hS (k_M_copyRow_rM_102_1_4_0 hR (1) a_a a_b (rg_k (by decide) : rg 1 1 1) ha_a ha_b) sk_X9_copyRow gm_1638 hd_X9_copyRow ⟨rfl, rfl⟩ ⟨Nat.le_of_ble_eq_true rfl, Nat.le_of_ble_eq_true rfl⟩ hl.1 rfl (Nat.le_of_ble_eq_true rfl) dX9_copyTale_7 ⟨Nat.zero_le _, Nat.zero_le _⟩ (fun i1 g1 H locs hq hT hS => ?_)
  have hR1 := hq
  refine lv_aload_n hx hb dX9_copyTale_10 rfl (lv_at hl 0 rfl) ?_
  refine r_getr X hT 96 17 103 fk_9_34 rfl rfl (by decide) dX9_copyTale_11 ?_
  refine lv_bipush (v := 7) hx hb dX9_copyTale_14 (by decide) ?_
  refine lv_iload_n hx hb dX9_copyTale_16 rfl (lv_at hl 1 rfl) ?_
  refine lv_iload_n hx hb dX9_copyTale_17 rfl (lv_at hl 2 rfl) ?_
  refine r_Sv (As := [.ref (h 103), .int 7, .int a_a, .int a_b]) (rest := []) X hT hS (k_M_copyRow_rM_103_7_4_0 hR1 (7) a_a a_b (rg_k (by decide) : rg 7 7 7) ha_a ha_b) sk_X9_copyRow gm_1638 hd_X9_copyRow ⟨rfl, rfl⟩ ⟨Nat.le_of_ble_eq_true rfl, Nat.le_of_ble_eq_true rfl⟩ hl.1 rfl (Nat.le_of_ble_eq_true rfl) dX9_copyTale_18 ⟨Nat.zero_le _, Nat.zero_le _⟩ (fun i2 g2 H locs hq hT hS => ?_)
  have hR2 := hq
  refine lv_aload_n hx hb dX9_copyTale_21 rfl (lv_at hl 0 rfl) ?_
  refine r_getr X hT 96 18 104 fk_9_37 rfl rfl (by decide) dX9_copyTale_22 ?_
  refine lv_bipush (v := 18) hx hb dX9_copyTale_25 (by decide) ?_
  refine lv_iload_n hx hb dX9_copyTale_27 rfl (lv_at hl 1 rfl) ?_
  refine lv_iload_n hx hb dX9_copyTale_28 rfl (lv_at hl 2 rfl) ?_
  refine r_Sv (As := [.ref (h 104), .int 18, .int a_a, .int a_b]) (rest := []) X hT hS (k_M_copyRow_rM_104_18_4_0 hR2 (18) a_a a_b (rg_k (by decide) : rg 18 18 18) ha_a ha_b) sk_X9_copyRow gm_1638 hd_X9_copyRow ⟨rfl, rfl⟩ ⟨Nat.le_of_ble_eq_true rfl, Nat.le_of_ble_eq_true rfl⟩ hl.1 rfl (Nat.le_of_ble_eq_true rfl) dX9_copyTale_29 ⟨Nat.zero_le _, Nat.zero_le _⟩ (fun i3 g3 H locs hq hT hS => ?_)
  have hR3 := hq
  refine lv_aload_n hx hb dX9_copyTale_32 rfl (lv_at hl 0 rfl) ?_
  refine r_getr X hT 96 19 105 fk_9_40 rfl rfl (by decide) dX9_copyTale_33 ?_
  refine lv_bipush (v := 20) hx hb dX9_copyTale_36 (by decide) ?_
  refine lv_iload_n hx hb dX9_copyTale_38 rfl (lv_at hl 1 rfl) ?_
  refine lv_iload_n hx hb dX9_copyTale_39 rfl (lv_at hl 2 rfl) ?_
  refine r_Sv (As := [.ref (h 105), .int 20, .int a_a, .int a_b]) (rest := []) X hT hS (k_M_copyRow_rM_105_20_4_0 hR3 (20) a_a a_b (rg_k (by decide) : rg 20 20 20) ha_a ha_b) sk_X9_copyRow gm_1638 hd_X9_copyRow ⟨rfl, rfl⟩ ⟨Nat.le_of_ble_eq_true rfl, Nat.le_of_ble_eq_true rfl⟩ hl.1 rfl (Nat.le_of_ble_eq_true rfl) dX9_copyTale_40 ⟨Nat.zero_le _, Nat.zero_le _⟩ (fun i4 g4 H locs hq hT hS => ?_)
  have hR4 := hq
  refine lv_aload_n hx hb dX9_copyTale_43 rfl (lv_at hl 0 rfl) ?_
  refine r_getr X hT 96 20 106 fk_9_43 rfl rfl (by decide) dX9_copyTale_44 ?_
  refine lv_bipush (v := 16) hx hb dX9_copyTale_47 (by decide) ?_
  refine lv_iload_n hx hb dX9_copyTale_49 rfl (lv_at hl 1 rfl) ?_
  refine lv_iload_n hx hb dX9_copyTale_50 rfl (lv_at hl 2 rfl) ?_
  refine r_Sv (As := [.ref (h 106), .int 16, .int a_a, .int a_b]) (rest := []) X hT hS (k_M_copyRow_rM_106_16_4_0 hR4 (16) a_a a_b (rg_k (by decide) : rg 16 16 16) ha_a ha_b) sk_X9_copyRow gm_1638 hd_X9_copyRow ⟨rfl, rfl⟩ ⟨Nat.le_of_ble_eq_true rfl, Nat.le_of_ble_eq_true rfl⟩ hl.1 rfl (Nat.le_of_ble_eq_true rfl) dX9_copyTale_51 ⟨Nat.zero_le _, Nat.zero_le _⟩ (fun i5 g5 H locs hq hT hS => ?_)
  have hR5 := hq
  refine lv_aload_n hx hb dX9_copyTale_54 rfl (lv_at hl 0 rfl) ?_
  refine r_getr X hT 96 21 107 fk_9_46 rfl rfl (by decide) dX9_copyTale_55 ?_
  refine lv_bipush (v := 60) hx hb dX9_copyTale_58 (by decide) ?_
  refine lv_iload_n hx hb dX9_copyTale_60 rfl (lv_at hl 1 rfl) ?_
  refine lv_iload_n hx hb dX9_copyTale_61 rfl (lv_at hl 2 rfl) ?_
  refine r_Sv (As := [.ref (h 107), .int 60, .int a_a, .int a_b]) (rest := []) X hT hS (k_M_copyRow_rM_107_60_4_0 hR5 (60) a_a a_b (rg_k (by decide) : rg 60 60 60) ha_a ha_b) sk_X9_copyRow gm_1638 hd_X9_copyRow ⟨rfl, rfl⟩ ⟨Nat.le_of_ble_eq_true rfl, Nat.le_of_ble_eq_true rfl⟩ hl.1 rfl (Nat.le_of_ble_eq_true rfl) dX9_copyTale_62 ⟨Nat.zero_le _, Nat.zero_le _⟩ (fun i6 g6 H locs hq hT hS => ?_)
  have hR6 := hq
  exact hret _ _ _ _ _ _ dX9_copyTale_65 hT hS hR6

set_option maxRecDepth 100000 in
set_option maxHeartbeats 4000000 in
theorem k_X9_tale {l : Launch} {D : va_G} {h : Nat → Nat} {cz : Nat → ClassId} {i : Nat → Nat → Int32} {g : Nat → Nat → Int64} (hR : Rg rM i)  : CtI l yX9_tale cX9_tale 1 (some .int) ({ frames := 3, cells := 0, slots := 0, locals := 64 } : Room) D h cz i g [.ref (h 96)] (fun r u => Rg rM u.1 ∧ r = 0) := by
  refine k_I pn_X9_tale (Nat.le_of_ble_eq_true rfl) ?_
  intro p e s m args below meth c ls Q X hret hT hl hS
  have hx := X.1
  have hb := X.2.1
  have hl : lv_has ls 1 [(0, .ref (h 96))] := hl
  refine lv_aload_n hx hb dX9_tale_0 rfl (lv_at hl 0 rfl) ?_
  refine lv_iconst (v := 0) hx hb dX9_tale_1 (by decide) ?_
  refine r_puti X hT hS 96 0 pk_9_83 rfl rfl rfl rfl (by decide) dX9_tale_2 (fun H locs i1 ei1 hT hS => ?_)
  have hR1 := Rg_put hR ei1 0 0 rfl (rg_k (by decide) : rg 0 0 0) (by decide)
  refine lv_aload_n hx hb dX9_tale_5 rfl (lv_at hl 0 rfl) ?_
  refine r_Vv (As := []) (rest := []) X hT hS (k_X9_clears hR1) mk_X9_clears gm_1530 rfl rfl (by decide) hd_X9_clears ⟨rfl, rfl⟩ ⟨Nat.le_of_ble_eq_true rfl, Nat.le_of_ble_eq_true rfl⟩ hl.1 rfl (Nat.le_of_ble_eq_true rfl) dX9_tale_6 ⟨Nat.zero_le _, Nat.zero_le _⟩ (fun i2 g2 H locs hq hT hS => ?_)
  have hR2 := hq
  refine lv_aload_n hx hb dX9_tale_9 rfl (lv_at hl 0 rfl) ?_
  refine r_Vv (As := []) (rest := []) X hT hS (k_X9_begins hR2) mk_X9_begins gm_1538 rfl rfl (by decide) hd_X9_begins ⟨rfl, rfl⟩ ⟨Nat.le_of_ble_eq_true rfl, Nat.le_of_ble_eq_true rfl⟩ hl.1 rfl (Nat.le_of_ble_eq_true rfl) dX9_tale_10 ⟨Nat.zero_le _, Nat.zero_le _⟩ (fun i3 g3 H locs hq hT hS => ?_)
  have hR3 := hq
  refine lv_aload_n hx hb dX9_tale_13 rfl (lv_at hl 0 rfl) ?_
  refine r_Vi (As := []) (rest := []) X hT hS (k_X9_isGood hR3) mk_X9_isGood gm_1555 rfl rfl (by decide) hd_X9_isGood ⟨rfl, rfl⟩ ⟨Nat.le_of_ble_eq_true rfl, Nat.le_of_ble_eq_true rfl⟩ hl.1 rfl (Nat.le_of_ble_eq_true rfl) dX9_tale_14 ⟨Nat.zero_le _, Nat.zero_le _⟩ (fun r4 i4 g4 H locs hq hT hS => ?_)
  obtain ⟨eh4, rfl⟩ := hq
  rw [(Prod.mk.inj eh4).1, (Prod.mk.inj eh4).2] at hT
  refine lv_if_eq (tgt := 118) hx hb dX9_tale_17 (by decide) (fun c5 => (x_eq (rg_k (by decide) : rg 1 1 1) (rg_k (by decide) : rg 0 0 0) (i_eq c5) (by decide)).elim) (fun c5 => ?_)
  refine lv_aload_n hx hb dX9_tale_20 rfl (lv_at hl 0 rfl) ?_
  refine r_geti X hT 96 8 fk_9_124 rfl rfl (by decide) dX9_tale_21 ?_
  refine lv_if_eq (tgt := 118) hx hb dX9_tale_24 (by decide) (fun c6 => ?_) (fun c6 => (x_ne (Rg_at hR3 96 8 0 0 (by decide) rfl) (rg_k (by decide) : rg 0 0 0) (i_ne c6) (by decide)).elim)
  have q6 : (i3 96 8).toInt = 0 := i_eq c6
  refine lv_aload_n hx hb dX9_tale_118 rfl (lv_at hl 0 rfl) ?_
  refine r_Vv (As := []) (rest := []) X hT hS (k_X9_isOver hR3) mk_X9_isOver gm_1630 rfl rfl (by decide) hd_X9_isOver ⟨rfl, rfl⟩ ⟨Nat.le_of_ble_eq_true rfl, Nat.le_of_ble_eq_true rfl⟩ hl.1 rfl (Nat.le_of_ble_eq_true rfl) dX9_tale_119 ⟨Nat.zero_le _, Nat.zero_le _⟩ (fun i7 g7 H locs hq hT hS => ?_)
  have hR7 := hq
  refine lv_aload_n hx hb dX9_tale_122 rfl (lv_at hl 0 rfl) ?_
  refine r_geti X hT 96 12 fk_9_135 rfl rfl (by decide) dX9_tale_123 ?_
  refine lv_if_eq (tgt := 132) hx hb dX9_tale_126 (by decide) (fun c8 => ?_) (fun c8 => (x_ne (Rg_at hR7 96 12 0 0 (by decide) rfl) (rg_k (by decide) : rg 0 0 0) (i_ne c8) (by decide)).elim)
  have q8 : (i7 96 12).toInt = 0 := i_eq c8
  refine lv_aload_n hx hb dX9_tale_132 rfl (lv_at hl 0 rfl) ?_
  refine lv_iconst (v := 4) hx hb dX9_tale_133 (by decide) ?_
  refine lv_iconst (v := 0) hx hb dX9_tale_134 (by decide) ?_
  refine r_Vv (As := [.int 4, .int 0]) (rest := []) X hT hS (k_M_copyTale_rM_4_0 hR7 (4) (0) (rg_k (by decide) : rg 4 4 4) (rg_k (by decide) : rg 0 0 0)) mk_X9_copyTale gm_1634 rfl rfl (by decide) hd_X9_copyTale ⟨rfl, rfl⟩ ⟨Nat.le_of_ble_eq_true rfl, Nat.le_of_ble_eq_true rfl⟩ hl.1 rfl (Nat.le_of_ble_eq_true rfl) dX9_tale_135 ⟨Nat.zero_le _, Nat.zero_le _⟩ (fun i9 g9 H locs hq hT hS => ?_)
  have hR9 := hq
  refine lv_aload_n hx hb dX9_tale_138 rfl (lv_at hl 0 rfl) ?_
  refine r_getr X hT 96 16 102 fk_9_31 rfl rfl (by decide) dX9_tale_139 ?_
  refine lv_iconst (v := 0) hx hb dX9_tale_142 (by decide) ?_
  refine r_iald X hT 102 rfl (by decide) (v_in (rg_k (by decide) : rg 0 0 0) (by decide)) dX9_tale_143 ?_
  exact hret (i9 102 (0 : Int32).toNatClampNeg) _ _ _ _ _ _ dX9_tale_144 hT hS ⟨hR9, (rg_c (Rg_at hR9 102 (0 : Int32).toNatClampNeg 0 0 (v_lt (v_in (rg_k (by decide) : rg 0 0 0) (by decide))) rfl))⟩
