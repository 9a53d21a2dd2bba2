set_option maxRecDepth 100000 in
set_option maxHeartbeats 4000000 in
theorem k_X6_hasPart_15 {l : Launch} {D : va_G} {h : Nat → Nat} {cz : Nat → ClassId} {i : Nat → Nat → Int32} {g : Nat → Nat → Int64} (hR : Rg rF i) (a_a : Int32) : CtI l yX6_hasPart cX6_hasPart 2 (some .boolean) ({ frames := 0, cells := 0, slots := 0, locals := 0 } : Room) D h cz i g [.ref (h 15), .int a_a] (fun r u => u = (i, g) ∧ r = 0) := by
  refine k_Z (by intro v u hq; obtain ⟨-, hq⟩ := hq; exact Or.inl hq) pn_X6_hasPart (Nat.le_of_ble_eq_true rfl) ?_
  intro p e s m args below meth c ls Q X hret hT hl hS
  have hx := X.1
  have hb := X.2.1
  have hl : lv_has ls 2 [(0, .ref (h 15)), (1, .int a_a)] := hl
  refine lv_iload_n hx hb dX6_hasPart_0 rfl (lv_at hl 1 rfl) ?_
  refine lv_if_lt (tgt := 16) hx hb dX6_hasPart_1 (by decide) (fun c1 => ?_) (fun c1 => ?_)
  ·
    have q1 : a_a.toInt < 0 := i_lt c1
    have h2 : rg (-2147483648) (-1) a_a := t_ltx (-2147483648) (-1) (rg_top a_a) (rg_k (by decide) : rg 0 0 0) (i_lt c1) (by decide)
    refine lv_iconst (v := 0) hx hb dX6_hasPart_16 (by decide) ?_
    exact hret 0 _ _ _ _ _ _ dX6_hasPart_17 hT hS ⟨rfl, rfl⟩
  ·
    have q1 : 0 ≤ a_a.toInt := i_nlt c1
    have h3 : rg 0 2147483647 a_a := t_ley 0 2147483647 (rg_k (by decide) : rg 0 0 0) (rg_top a_a) (i_nlt c1) (by decide)
    refine lv_iload_n hx hb dX6_hasPart_4 rfl (lv_at hl 1 rfl) ?_
    refine lv_aload_n hx hb dX6_hasPart_5 rfl (lv_at hl 0 rfl) ?_
    refine r_geti X hT 15 13 fk_6_52 rfl rfl (by decide) dX6_hasPart_6 ?_
    refine lv_icmp_ge (tgt := 16) hx hb dX6_hasPart_9 (by decide) (fun c4 => ?_) (fun c4 => (x_lt h3 (Rg_at hR 15 13 0 0 (by decide) rfl) (i_nle c4) (by decide)).elim)
    have q4 : (i 15 13).toInt ≤ a_a.toInt := i_le c4
    refine lv_iconst (v := 0) hx hb dX6_hasPart_16 (by decide) ?_
    exact hret 0 _ _ _ _ _ _ dX6_hasPart_17 hT hS ⟨rfl, rfl⟩

set_option maxRecDepth 100000 in
set_option maxHeartbeats 4000000 in
theorem k_X8_part {l : Launch} {D : va_G} {h : Nat → Nat} {cz : Nat → ClassId} {i : Nat → Nat → Int32} {g : Nat → Nat → Int64} (hR : Rg rF i) (a_a : Int32) (a_b : Int32) : CtI l yX8_part cX8_part 3 (some .int) ({ frames := 1, cells := 0, slots := 0, locals := 21 } : Room) D h cz i g [.ref (h 0), .int a_a, .int a_b] (fun r u => u = (i, g) ∧ r = (-2)) := by
  refine k_I pn_X8_part (Nat.le_of_ble_eq_true rfl) ?_
  intro p e s m args below meth c ls Q X hret hT hl hS
  have hx := X.1
  have hb := X.2.1
  have hl : lv_has ls 3 [(0, .ref (h 0)), (1, .int a_a), (2, .int a_b)] := hl
  refine lv_aload_n hx hb dX8_part_0 rfl (lv_at hl 0 rfl) ?_
  refine r_getr X hT 0 3 15 fk_8_32 rfl rfl (by decide) dX8_part_1 ?_
  refine lv_iload_n hx hb dX8_part_4 rfl (lv_at hl 1 rfl) ?_
  refine r_Vi (As := [.int a_a]) (rest := []) X hT hS (k_X6_hasPart_15 hR a_a) mk_X6_hasPart gm_669 rfl rfl (by decide) hd_X6_hasPart ⟨rfl, rfl⟩ ⟨Nat.le_of_ble_eq_true rfl, Nat.le_of_ble_eq_true rfl⟩ hl.1 rfl (Nat.le_of_ble_eq_true rfl) dX8_part_5 ⟨Nat.zero_le _, Nat.zero_le _⟩ (fun r1 i1 g1 H locs hq hT hS => ?_)
  obtain ⟨eh1, rfl⟩ := hq
  rw [(Prod.mk.inj eh1).1, (Prod.mk.inj eh1).2] at hT
  refine lv_if_ne (tgt := 14) hx hb dX8_part_8 (by decide) (fun c2 => (x_ne (rg_k (by decide) : rg 0 0 0) (rg_k (by decide) : rg 0 0 0) (i_ne c2) (by decide)).elim) (fun c2 => ?_)
  refine lv_bipush (v := (-2)) hx hb dX8_part_11 (by decide) ?_
  exact hret (-2) _ _ _ _ _ _ dX8_part_13 hT hS ⟨rfl, rfl⟩

set_option maxRecDepth 100000 in
set_option maxHeartbeats 4000000 in
theorem k_X8_near {l : Launch} {D : va_G} {h : Nat → Nat} {cz : Nat → ClassId} {i : Nat → Nat → Int32} {g : Nat → Nat → Int64} (hR : Rg rF i) (a_a : Int32) : CtI l yX8_near cX8_near 2 (some .int) ({ frames := 1, cells := 0, slots := 0, locals := 21 } : Room) D h cz i g [.ref (h 0), .int a_a] (fun r u => u = (i, g) ∧ r = (-2)) := by
  refine k_I pn_X8_near (Nat.le_of_ble_eq_true rfl) ?_
  intro p e s m args below meth c ls Q X hret hT hl hS
  have hx := X.1
  have hb := X.2.1
  have hl : lv_has ls 2 [(0, .ref (h 0)), (1, .int a_a)] := hl
  refine lv_aload_n hx hb dX8_near_0 rfl (lv_at hl 0 rfl) ?_
  refine r_getr X hT 0 3 15 fk_8_32 rfl rfl (by decide) dX8_near_1 ?_
  refine lv_iload_n hx hb dX8_near_4 rfl (lv_at hl 1 rfl) ?_
  refine r_Vi (As := [.int a_a]) (rest := []) X hT hS (k_X6_hasPart_15 hR a_a) mk_X6_hasPart gm_669 rfl rfl (by decide) hd_X6_hasPart ⟨rfl, rfl⟩ ⟨Nat.le_of_ble_eq_true rfl, Nat.le_of_ble_eq_true rfl⟩ hl.1 rfl (Nat.le_of_ble_eq_true rfl) dX8_near_5 ⟨Nat.zero_le _, Nat.zero_le _⟩ (fun r1 i1 g1 H locs hq hT hS => ?_)
  obtain ⟨eh1, rfl⟩ := hq
  rw [(Prod.mk.inj eh1).1, (Prod.mk.inj eh1).2] at hT
  refine lv_if_eq (tgt := 23) hx hb dX8_near_8 (by decide) (fun c2 => ?_) (fun c2 => (x_ne (rg_k (by decide) : rg 0 0 0) (rg_k (by decide) : rg 0 0 0) (i_ne c2) (by decide)).elim)
  refine lv_bipush (v := (-2)) hx hb dX8_near_23 (by decide) ?_
  exact hret (-2) _ _ _ _ _ _ dX8_near_25 hT hS ⟨rfl, rfl⟩

set_option maxRecDepth 100000 in
set_option maxHeartbeats 4000000 in
theorem k_X8_far {l : Launch} {D : va_G} {h : Nat → Nat} {cz : Nat → ClassId} {i : Nat → Nat → Int32} {g : Nat → Nat → Int64} (hR : Rg rF i) (a_a : Int32) (a_b : Int32) : CtI l yX8_far cX8_far 5 (some .int) ({ frames := 1, cells := 0, slots := 0, locals := 21 } : Room) D h cz i g [.ref (h 0), .int a_a, .int a_b] (fun r u => u = (i, g) ∧ r = (-2)) := by
  refine k_I pn_X8_far (Nat.le_of_ble_eq_true rfl) ?_
  intro p e s m args below meth c ls Q X hret hT hl hS
  have hx := X.1
  have hb := X.2.1
  have hl : lv_has ls 5 [(0, .ref (h 0)), (1, .int a_a), (2, .int a_b)] := hl
  refine lv_aload_n hx hb dX8_far_0 rfl (lv_at hl 0 rfl) ?_
  refine r_getr X hT 0 3 15 fk_8_32 rfl rfl (by decide) dX8_far_1 ?_
  refine lv_iload_n hx hb dX8_far_4 rfl (lv_at hl 1 rfl) ?_
  refine r_Vi (As := [.int a_a]) (rest := []) X hT hS (k_X6_hasPart_15 hR a_a) mk_X6_hasPart gm_669 rfl rfl (by decide) hd_X6_hasPart ⟨rfl, rfl⟩ ⟨Nat.le_of_ble_eq_true rfl, Nat.le_of_ble_eq_true rfl⟩ hl.1 rfl (Nat.le_of_ble_eq_true rfl) dX8_far_5 ⟨Nat.zero_le _, Nat.zero_le _⟩ (fun r1 i1 g1 H locs hq hT hS => ?_)
  obtain ⟨eh1, rfl⟩ := hq
  rw [(Prod.mk.inj eh1).1, (Prod.mk.inj eh1).2] at hT
  refine lv_if_eq (tgt := 22) hx hb dX8_far_8 (by decide) (fun c2 => ?_) (fun c2 => (x_ne (rg_k (by decide) : rg 0 0 0) (rg_k (by decide) : rg 0 0 0) (i_ne c2) (by decide)).elim)
  refine lv_bipush (v := (-2)) hx hb dX8_far_22 (by decide) ?_
  exact hret (-2) _ _ _ _ _ _ dX8_far_24 hT hS ⟨rfl, rfl⟩

set_option maxRecDepth 100000 in
set_option maxHeartbeats 4000000 in
theorem k_X8_hasPartAndYear {l : Launch} {D : va_G} {h : Nat → Nat} {cz : Nat → ClassId} {i : Nat → Nat → Int32} {g : Nat → Nat → Int64} (hR : Rg rF i) (a_a : Int32) (a_b : Int32) : CtI l yX8_hasPartAndYear cX8_hasPartAndYear 3 (some .boolean) ({ frames := 1, cells := 0, slots := 0, locals := 21 } : Room) D h cz i g [.ref (h 0), .int a_a, .int a_b] (fun r u => u = (i, g) ∧ r = 0) := by
  refine k_Z (by intro v u hq; obtain ⟨-, hq⟩ := hq; exact Or.inl hq) pn_X8_hasPartAndYear (Nat.le_of_ble_eq_true rfl) ?_
  intro p e s m args below meth c ls Q X hret hT hl hS
  have hx := X.1
  have hb := X.2.1
  have hl : lv_has ls 3 [(0, .ref (h 0)), (1, .int a_a), (2, .int a_b)] := hl
  refine lv_aload_n hx hb dX8_hasPartAndYear_0 rfl (lv_at hl 0 rfl) ?_
  refine r_getr X hT 0 3 15 fk_8_32 rfl rfl (by decide) dX8_hasPartAndYear_1 ?_
  refine lv_iload_n hx hb dX8_hasPartAndYear_4 rfl (lv_at hl 1 rfl) ?_
  refine r_Vi (As := [.int a_a]) (rest := []) X hT hS (k_X6_hasPart_15 hR a_a) mk_X6_hasPart gm_669 rfl rfl (by decide) hd_X6_hasPart ⟨rfl, rfl⟩ ⟨Nat.le_of_ble_eq_true rfl, Nat.le_of_ble_eq_true rfl⟩ hl.1 rfl (Nat.le_of_ble_eq_true rfl) dX8_hasPartAndYear_5 ⟨Nat.zero_le _, Nat.zero_le _⟩ (fun r1 i1 g1 H locs hq hT hS => ?_)
  obtain ⟨eh1, rfl⟩ := hq
  rw [(Prod.mk.inj eh1).1, (Prod.mk.inj eh1).2] at hT
  refine lv_if_eq (tgt := 26) hx hb dX8_hasPartAndYear_8 (by decide) (fun c2 => ?_) (fun c2 => (x_ne (rg_k (by decide) : rg 0 0 0) (rg_k (by decide) : rg 0 0 0) (i_ne c2) (by decide)).elim)
  refine lv_iconst (v := 0) hx hb dX8_hasPartAndYear_26 (by decide) ?_
  exact hret 0 _ _ _ _ _ _ dX8_hasPartAndYear_27 hT hS ⟨rfl, rfl⟩

set_option maxRecDepth 100000 in
set_option maxHeartbeats 4000000 in
theorem k_X8_stiff {l : Launch} {D : va_G} {h : Nat → Nat} {cz : Nat → ClassId} {i : Nat → Nat → Int32} {g : Nat → Nat → Int64} (hR : Rg rF i) (a_a : Int32) (a_b : Int32) : CtI l yX8_stiff cX8_stiff 3 (some .int) ({ frames := 2, cells := 0, slots := 0, locals := 43 } : Room) D h cz i g [.ref (h 0), .int a_a, .int a_b] (fun r u => u = (i, g) ∧ r = (-2)) := by
  refine k_I pn_X8_stiff (Nat.le_of_ble_eq_true rfl) ?_
  intro p e s m args below meth c ls Q X hret hT hl hS
  have hx := X.1
  have hb := X.2.1
  have hl : lv_has ls 3 [(0, .ref (h 0)), (1, .int a_a), (2, .int a_b)] := hl
  refine lv_aload_n hx hb dX8_stiff_0 rfl (lv_at hl 0 rfl) ?_
  refine lv_iload_n hx hb dX8_stiff_1 rfl (lv_at hl 1 rfl) ?_
  refine lv_iload_n hx hb dX8_stiff_2 rfl (lv_at hl 2 rfl) ?_
  refine r_Vi (As := [.int a_a, .int a_b]) (rest := []) X hT hS (k_X8_hasPartAndYear hR a_a a_b) mk_X8_hasPartAndYear gm_727 rfl rfl (by decide) hd_X8_hasPartAndYear ⟨rfl, rfl⟩ ⟨Nat.le_of_ble_eq_true rfl, Nat.le_of_ble_eq_true rfl⟩ hl.1 rfl (Nat.le_of_ble_eq_true rfl) dX8_stiff_3 ⟨Nat.zero_le _, Nat.zero_le _⟩ (fun r1 i1 g1 H locs hq hT hS => ?_)
  obtain ⟨eh1, rfl⟩ := hq
  rw [(Prod.mk.inj eh1).1, (Prod.mk.inj eh1).2] at hT
  refine lv_if_eq (tgt := 21) hx hb dX8_stiff_6 (by decide) (fun c2 => ?_) (fun c2 => (x_ne (rg_k (by decide) : rg 0 0 0) (rg_k (by decide) : rg 0 0 0) (i_ne c2) (by decide)).elim)
  refine lv_bipush (v := (-2)) hx hb dX8_stiff_21 (by decide) ?_
  exact hret (-2) _ _ _ _ _ _ dX8_stiff_23 hT hS ⟨rfl, rfl⟩

set_option maxRecDepth 100000 in
set_option maxHeartbeats 4000000 in
theorem k_X6_isTold_15 {l : Launch} {D : va_G} {h : Nat → Nat} {cz : Nat → ClassId} {i : Nat → Nat → Int32} {g : Nat → Nat → Int64} (hR : Rg rF i)  : CtI l yX6_isTold cX6_isTold 1 (some .boolean) ({ frames := 0, cells := 0, slots := 0, locals := 0 } : Room) D h cz i g [.ref (h 15)] (fun r u => u = (i, g) ∧ r = 0) := by
  refine k_Z (by intro v u hq; obtain ⟨-, hq⟩ := hq; exact Or.inl hq) pn_X6_isTold (Nat.le_of_ble_eq_true rfl) ?_
  intro p e s m args below meth c ls Q X hret hT hl hS
  have hx := X.1
  have hb := X.2.1
  have hl : lv_has ls 1 [(0, .ref (h 15))] := hl
  refine lv_aload_n hx hb dX6_isTold_0 rfl (lv_at hl 0 rfl) ?_
  refine r_geti X hT 15 17 fk_6_64 rfl rfl (by decide) dX6_isTold_1 ?_
  refine lv_if_le (tgt := 11) hx hb dX6_isTold_4 (by decide) (fun c1 => ?_) (fun c1 => (x_lt (rg_k (by decide) : rg 0 0 0) (Rg_at hR 15 17 0 0 (by decide) rfl) (i_nle c1) (by decide)).elim)
  have q1 : (i 15 17).toInt ≤ 0 := i_le c1
  refine lv_iconst (v := 0) hx hb dX6_isTold_11 (by decide) ?_
  exact hret 0 _ _ _ _ _ _ dX6_isTold_12 hT hS ⟨rfl, rfl⟩

set_option maxRecDepth 100000 in
set_option maxHeartbeats 4000000 in
theorem k_X6_hasYear_15 {l : Launch} {D : va_G} {h : Nat → Nat} {cz : Nat → ClassId} {i : Nat → Nat → Int32} {g : Nat → Nat → Int64} (hR : Rg rF i) (a_a : Int32) : CtI l yX6_hasYear cX6_hasYear 2 (some .boolean) ({ frames := 1, cells := 0, slots := 0, locals := 20 } : Room) D h cz i g [.ref (h 15), .int a_a] (fun r u => u = (i, g) ∧ r = 0) := by
  refine k_Z (by intro v u hq; obtain ⟨-, hq⟩ := hq; exact Or.inl hq) pn_X6_hasYear (Nat.le_of_ble_eq_true rfl) ?_
  intro p e s m args below meth c ls Q X hret hT hl hS
  have hx := X.1
  have hb := X.2.1
  have hl : lv_has ls 2 [(0, .ref (h 15)), (1, .int a_a)] := hl
  refine lv_aload_n hx hb dX6_hasYear_0 rfl (lv_at hl 0 rfl) ?_
  refine r_Vi (As := []) (rest := []) X hT hS (k_X6_isTold_15 hR) mk_X6_isTold gm_735 rfl rfl (by decide) hd_X6_isTold ⟨rfl, rfl⟩ ⟨Nat.le_of_ble_eq_true rfl, Nat.le_of_ble_eq_true rfl⟩ hl.1 rfl (Nat.le_of_ble_eq_true rfl) dX6_hasYear_1 ⟨Nat.zero_le _, Nat.zero_le _⟩ (fun r1 i1 g1 H locs hq hT hS => ?_)
  obtain ⟨eh1, rfl⟩ := hq
  rw [(Prod.mk.inj eh1).1, (Prod.mk.inj eh1).2] at hT
  refine lv_if_eq (tgt := 23) hx hb dX6_hasYear_4 (by decide) (fun c2 => ?_) (fun c2 => (x_ne (rg_k (by decide) : rg 0 0 0) (rg_k (by decide) : rg 0 0 0) (i_ne c2) (by decide)).elim)
  refine lv_iconst (v := 0) hx hb dX6_hasYear_23 (by decide) ?_
  exact hret 0 _ _ _ _ _ _ dX6_hasYear_24 hT hS ⟨rfl, rfl⟩

set_option maxRecDepth 100000 in
set_option maxHeartbeats 4000000 in
theorem k_X8_open {l : Launch} {D : va_G} {h : Nat → Nat} {cz : Nat → ClassId} {i : Nat → Nat → Int32} {g : Nat → Nat → Int64} (hR : Rg rF i) (a_a : Int32) : CtI l yX8_open cX8_open 2 (some .int) ({ frames := 2, cells := 0, slots := 0, locals := 41 } : Room) D h cz i g [.ref (h 0), .int a_a] (fun r u => u = (i, g) ∧ r = (-2)) := by
  refine k_I pn_X8_open (Nat.le_of_ble_eq_true rfl) ?_
  intro p e s m args below meth c ls Q X hret hT hl hS
  have hx := X.1
  have hb := X.2.1
  have hl : lv_has ls 2 [(0, .ref (h 0)), (1, .int a_a)] := hl
  refine lv_aload_n hx hb dX8_open_0 rfl (lv_at hl 0 rfl) ?_
  refine r_getr X hT 0 3 15 fk_8_32 rfl rfl (by decide) dX8_open_1 ?_
  refine lv_iload_n hx hb dX8_open_4 rfl (lv_at hl 1 rfl) ?_
  refine r_Vi (As := [.int a_a]) (rest := []) X hT hS (k_X6_hasYear_15 hR a_a) mk_X6_hasYear gm_731 rfl rfl (by decide) hd_X6_hasYear ⟨rfl, rfl⟩ ⟨Nat.le_of_ble_eq_true rfl, Nat.le_of_ble_eq_true rfl⟩ hl.1 rfl (Nat.le_of_ble_eq_true rfl) dX8_open_5 ⟨Nat.zero_le _, Nat.zero_le _⟩ (fun r1 i1 g1 H locs hq hT hS => ?_)
  obtain ⟨eh1, rfl⟩ := hq
  rw [(Prod.mk.inj eh1).1, (Prod.mk.inj eh1).2] at hT
  refine lv_if_eq (tgt := 22) hx hb dX8_open_8 (by decide) (fun c2 => ?_) (fun c2 => (x_ne (rg_k (by decide) : rg 0 0 0) (rg_k (by decide) : rg 0 0 0) (i_ne c2) (by decide)).elim)
  refine lv_bipush (v := (-2)) hx hb dX8_open_22 (by decide) ?_
  exact hret (-2) _ _ _ _ _ _ dX8_open_24 hT hS ⟨rfl, rfl⟩

set_option maxRecDepth 100000 in
set_option maxHeartbeats 4000000 in
theorem k_X8_when {l : Launch} {D : va_G} {h : Nat → Nat} {cz : Nat → ClassId} {i : Nat → Nat → Int32} {g : Nat → Nat → Int64} (hR : Rg rF i) (a_a : Int32) : CtI l yX8_when cX8_when 2 (some .int) ({ frames := 1, cells := 0, slots := 0, locals := 21 } : Room) D h cz i g [.ref (h 0), .int a_a] (fun r u => u = (i, g) ∧ r = (-2)) := by
  refine k_I pn_X8_when (Nat.le_of_ble_eq_true rfl) ?_
  intro p e s m args below meth c ls Q X hret hT hl hS
  have hx := X.1
  have hb := X.2.1
  have hl : lv_has ls 2 [(0, .ref (h 0)), (1, .int a_a)] := hl
  refine lv_aload_n hx hb dX8_when_0 rfl (lv_at hl 0 rfl) ?_
  refine r_getr X hT 0 3 15 fk_8_32 rfl rfl (by decide) dX8_when_1 ?_
  refine lv_iload_n hx hb dX8_when_4 rfl (lv_at hl 1 rfl) ?_
  refine r_Vi (As := [.int a_a]) (rest := []) X hT hS (k_X6_hasPart_15 hR a_a) mk_X6_hasPart gm_669 rfl rfl (by decide) hd_X6_hasPart ⟨rfl, rfl⟩ ⟨Nat.le_of_ble_eq_true rfl, Nat.le_of_ble_eq_true rfl⟩ hl.1 rfl (Nat.le_of_ble_eq_true rfl) dX8_when_5 ⟨Nat.zero_le _, Nat.zero_le _⟩ (fun r1 i1 g1 H locs hq hT hS => ?_)
  obtain ⟨eh1, rfl⟩ := hq
  rw [(Prod.mk.inj eh1).1, (Prod.mk.inj eh1).2] at hT
  refine lv_if_eq (tgt := 22) hx hb dX8_when_8 (by decide) (fun c2 => ?_) (fun c2 => (x_ne (rg_k (by decide) : rg 0 0 0) (rg_k (by decide) : rg 0 0 0) (i_ne c2) (by decide)).elim)
  refine lv_bipush (v := (-2)) hx hb dX8_when_22 (by decide) ?_
  exact hret (-2) _ _ _ _ _ _ dX8_when_24 hT hS ⟨rfl, rfl⟩

set_option maxRecDepth 100000 in
set_option maxHeartbeats 4000000 in
theorem k_X8_how {l : Launch} {D : va_G} {h : Nat → Nat} {cz : Nat → ClassId} {i : Nat → Nat → Int32} {g : Nat → Nat → Int64} (hR : Rg rF i) (a_a : Int32) : CtI l yX8_how cX8_how 3 (some .int) ({ frames := 1, cells := 0, slots := 0, locals := 21 } : Room) D h cz i g [.ref (h 0), .int a_a] (fun r u => u = (i, g) ∧ r = (-2)) := by
  refine k_I pn_X8_how (Nat.le_of_ble_eq_true rfl) ?_
  intro p e s m args below meth c ls Q X hret hT hl hS
  have hx := X.1
  have hb := X.2.1
  have hl : lv_has ls 3 [(0, .ref (h 0)), (1, .int a_a)] := hl
  refine lv_aload_n hx hb dX8_how_0 rfl (lv_at hl 0 rfl) ?_
  refine r_getr X hT 0 3 15 fk_8_32 rfl rfl (by decide) dX8_how_1 ?_
  refine lv_iload_n hx hb dX8_how_4 rfl (lv_at hl 1 rfl) ?_
  refine r_Vi (As := [.int a_a]) (rest := []) X hT hS (k_X6_hasPart_15 hR a_a) mk_X6_hasPart gm_669 rfl rfl (by decide) hd_X6_hasPart ⟨rfl, rfl⟩ ⟨Nat.le_of_ble_eq_true rfl, Nat.le_of_ble_eq_true rfl⟩ hl.1 rfl (Nat.le_of_ble_eq_true rfl) dX8_how_5 ⟨Nat.zero_le _, Nat.zero_le _⟩ (fun r1 i1 g1 H locs hq hT hS => ?_)
  obtain ⟨eh1, rfl⟩ := hq
  rw [(Prod.mk.inj eh1).1, (Prod.mk.inj eh1).2] at hT
  refine lv_if_ne (tgt := 14) hx hb dX8_how_8 (by decide) (fun c2 => (x_ne (rg_k (by decide) : rg 0 0 0) (rg_k (by decide) : rg 0 0 0) (i_ne c2) (by decide)).elim) (fun c2 => ?_)
  refine lv_bipush (v := (-2)) hx hb dX8_how_11 (by decide) ?_
  exact hret (-2) _ _ _ _ _ _ dX8_how_13 hT hS ⟨rfl, rfl⟩

set_option maxRecDepth 100000 in
set_option maxHeartbeats 4000000 in
theorem k_X8_read {l : Launch} {D : va_G} {h : Nat → Nat} {cz : Nat → ClassId} {i : Nat → Nat → Int32} {g : Nat → Nat → Int64} (hR : Rg rF i) (a_a : Int32) : CtI l yX8_read cX8_read 2 (some .int) ({ frames := 1, cells := 0, slots := 0, locals := 21 } : Room) D h cz i g [.ref (h 0), .int a_a] (fun r u => u = (i, g) ∧ r = (-2)) := by
  refine k_I pn_X8_read (Nat.le_of_ble_eq_true rfl) ?_
  intro p e s m args below meth c ls Q X hret hT hl hS
  have hx := X.1
  have hb := X.2.1
  have hl : lv_has ls 2 [(0, .ref (h 0)), (1, .int a_a)] := hl
  refine lv_aload_n hx hb dX8_read_0 rfl (lv_at hl 0 rfl) ?_
  refine r_getr X hT 0 3 15 fk_8_32 rfl rfl (by decide) dX8_read_1 ?_
  refine lv_iload_n hx hb dX8_read_4 rfl (lv_at hl 1 rfl) ?_
  refine r_Vi (As := [.int a_a]) (rest := []) X hT hS (k_X6_hasPart_15 hR a_a) mk_X6_hasPart gm_669 rfl rfl (by decide) hd_X6_hasPart ⟨rfl, rfl⟩ ⟨Nat.le_of_ble_eq_true rfl, Nat.le_of_ble_eq_true rfl⟩ hl.1 rfl (Nat.le_of_ble_eq_true rfl) dX8_read_5 ⟨Nat.zero_le _, Nat.zero_le _⟩ (fun r1 i1 g1 H locs hq hT hS => ?_)
  obtain ⟨eh1, rfl⟩ := hq
  rw [(Prod.mk.inj eh1).1, (Prod.mk.inj eh1).2] at hT
  refine lv_if_eq (tgt := 22) hx hb dX8_read_8 (by decide) (fun c2 => ?_) (fun c2 => (x_ne (rg_k (by decide) : rg 0 0 0) (rg_k (by decide) : rg 0 0 0) (i_ne c2) (by decide)).elim)
  refine lv_bipush (v := (-2)) hx hb dX8_read_22 (by decide) ?_
  exact hret (-2) _ _ _ _ _ _ dX8_read_24 hT hS ⟨rfl, rfl⟩

set_option maxRecDepth 100000 in
set_option maxHeartbeats 4000000 in
theorem k_X6_hasWorkingYear_15 {l : Launch} {D : va_G} {h : Nat → Nat} {cz : Nat → ClassId} {i : Nat → Nat → Int32} {g : Nat → Nat → Int64} (hR : Rg rF i) (a_a : Int32) : CtI l yX6_hasWorkingYear cX6_hasWorkingYear 2 (some .boolean) ({ frames := 0, cells := 0, slots := 0, locals := 0 } : Room) D h cz i g [.ref (h 15), .int a_a] (fun r u => u = (i, g) ∧ r = 0) := by
  refine k_Z (by intro v u hq; obtain ⟨-, hq⟩ := hq; exact Or.inl hq) pn_X6_hasWorkingYear (Nat.le_of_ble_eq_true rfl) ?_
  intro p e s m args below meth c ls Q X hret hT hl hS
  have hx := X.1
  have hb := X.2.1
  have hl : lv_has ls 2 [(0, .ref (h 15)), (1, .int a_a)] := hl
  refine lv_iload_n hx hb dX6_hasWorkingYear_0 rfl (lv_at hl 1 rfl) ?_
  refine lv_if_lt (tgt := 16) hx hb dX6_hasWorkingYear_1 (by decide) (fun c1 => ?_) (fun c1 => ?_)
  ·
    have q1 : a_a.toInt < 0 := i_lt c1
    have h2 : rg (-2147483648) (-1) a_a := t_ltx (-2147483648) (-1) (rg_top a_a) (rg_k (by decide) : rg 0 0 0) (i_lt c1) (by decide)
    refine lv_iconst (v := 0) hx hb dX6_hasWorkingYear_16 (by decide) ?_
    exact hret 0 _ _ _ _ _ _ dX6_hasWorkingYear_17 hT hS ⟨rfl, rfl⟩
  ·
    have q1 : 0 ≤ a_a.toInt := i_nlt c1
    have h3 : rg 0 2147483647 a_a := t_ley 0 2147483647 (rg_k (by decide) : rg 0 0 0) (rg_top a_a) (i_nlt c1) (by decide)
    refine lv_iload_n hx hb dX6_hasWorkingYear_4 rfl (lv_at hl 1 rfl) ?_
    refine lv_aload_n hx hb dX6_hasWorkingYear_5 rfl (lv_at hl 0 rfl) ?_
    refine r_geti X hT 15 10 fk_6_42 rfl rfl (by decide) dX6_hasWorkingYear_6 ?_
    refine lv_icmp_ge (tgt := 16) hx hb dX6_hasWorkingYear_9 (by decide) (fun c4 => ?_) (fun c4 => (x_lt h3 (Rg_at hR 15 10 0 0 (by decide) rfl) (i_nle c4) (by decide)).elim)
    have q4 : (i 15 10).toInt ≤ a_a.toInt := i_le c4
    refine lv_iconst (v := 0) hx hb dX6_hasWorkingYear_16 (by decide) ?_
    exact hret 0 _ _ _ _ _ _ dX6_hasWorkingYear_17 hT hS ⟨rfl, rfl⟩

set_option maxRecDepth 100000 in
set_option maxHeartbeats 4000000 in
theorem k_X8_reads {l : Launch} {D : va_G} {h : Nat → Nat} {cz : Nat → ClassId} {i : Nat → Nat → Int32} {g : Nat → Nat → Int64} (hR : Rg rF i) (a_a : Int32) : CtI l yX8_reads cX8_reads 2 (some .int) ({ frames := 1, cells := 0, slots := 0, locals := 21 } : Room) D h cz i g [.ref (h 0), .int a_a] (fun r u => u = (i, g) ∧ r = (-2)) := by
  refine k_I pn_X8_reads (Nat.le_of_ble_eq_true rfl) ?_
  intro p e s m args below meth c ls Q X hret hT hl hS
  have hx := X.1
  have hb := X.2.1
  have hl : lv_has ls 2 [(0, .ref (h 0)), (1, .int a_a)] := hl
  refine lv_aload_n hx hb dX8_reads_0 rfl (lv_at hl 0 rfl) ?_
  refine r_getr X hT 0 3 15 fk_8_32 rfl rfl (by decide) dX8_reads_1 ?_
  refine lv_iload_n hx hb dX8_reads_4 rfl (lv_at hl 1 rfl) ?_
  refine r_Vi (As := [.int a_a]) (rest := []) X hT hS (k_X6_hasWorkingYear_15 hR a_a) mk_X6_hasWorkingYear gm_827 rfl rfl (by decide) hd_X6_hasWorkingYear ⟨rfl, rfl⟩ ⟨Nat.le_of_ble_eq_true rfl, Nat.le_of_ble_eq_true rfl⟩ hl.1 rfl (Nat.le_of_ble_eq_true rfl) dX8_reads_5 ⟨Nat.zero_le _, Nat.zero_le _⟩ (fun r1 i1 g1 H locs hq hT hS => ?_)
  obtain ⟨eh1, rfl⟩ := hq
  rw [(Prod.mk.inj eh1).1, (Prod.mk.inj eh1).2] at hT
  refine lv_if_eq (tgt := 22) hx hb dX8_reads_8 (by decide) (fun c2 => ?_) (fun c2 => (x_ne (rg_k (by decide) : rg 0 0 0) (rg_k (by decide) : rg 0 0 0) (i_ne c2) (by decide)).elim)
  refine lv_bipush (v := (-2)) hx hb dX8_reads_22 (by decide) ?_
  exact hret (-2) _ _ _ _ _ _ dX8_reads_24 hT hS ⟨rfl, rfl⟩

set_option maxRecDepth 100000 in
set_option maxHeartbeats 4000000 in
theorem k_X8_all {l : Launch} {D : va_G} {h : Nat → Nat} {cz : Nat → ClassId} {i : Nat → Nat → Int32} {g : Nat → Nat → Int64} (hR : Rg rF i)  : CtI l yX8_all cX8_all 1 (some .int) ({ frames := 1, cells := 0, slots := 0, locals := 20 } : Room) D h cz i g [.ref (h 0)] (fun r u => u = (i, g) ∧ r = (-2)) := by
  refine k_I pn_X8_all (Nat.le_of_ble_eq_true rfl) ?_
  intro p e s m args below meth c ls Q X hret hT hl hS
  have hx := X.1
  have hb := X.2.1
  have hl : lv_has ls 1 [(0, .ref (h 0))] := hl
  refine lv_aload_n hx hb dX8_all_0 rfl (lv_at hl 0 rfl) ?_
  refine r_getr X hT 0 3 15 fk_8_32 rfl rfl (by decide) dX8_all_1 ?_
  refine r_Vi (As := []) (rest := []) X hT hS (k_X6_isTold_15 hR) mk_X6_isTold gm_698 rfl rfl (by decide) hd_X6_isTold ⟨rfl, rfl⟩ ⟨Nat.le_of_ble_eq_true rfl, Nat.le_of_ble_eq_true rfl⟩ hl.1 rfl (Nat.le_of_ble_eq_true rfl) dX8_all_4 ⟨Nat.zero_le _, Nat.zero_le _⟩ (fun r1 i1 g1 H locs hq hT hS => ?_)
  obtain ⟨eh1, rfl⟩ := hq
  rw [(Prod.mk.inj eh1).1, (Prod.mk.inj eh1).2] at hT
  refine lv_if_eq (tgt := 20) hx hb dX8_all_7 (by decide) (fun c2 => ?_) (fun c2 => (x_ne (rg_k (by decide) : rg 0 0 0) (rg_k (by decide) : rg 0 0 0) (i_ne c2) (by decide)).elim)
  refine lv_bipush (v := (-2)) hx hb dX8_all_20 (by decide) ?_
  exact hret (-2) _ _ _ _ _ _ dX8_all_22 hT hS ⟨rfl, rfl⟩

set_option maxRecDepth 100000 in
set_option maxHeartbeats 4000000 in
theorem k_X8_keeps {l : Launch} {D : va_G} {h : Nat → Nat} {cz : Nat → ClassId} {i : Nat → Nat → Int32} {g : Nat → Nat → Int64} (hR : Rg rF i) (a_a : Int32) (a_b : Int32) : CtI l yX8_keeps cX8_keeps 3 (some .int) ({ frames := 2, cells := 0, slots := 0, locals := 43 } : Room) D h cz i g [.ref (h 0), .int a_a, .int a_b] (fun r u => u = (i, g) ∧ r = (-2)) := by
  refine k_I pn_X8_keeps (Nat.le_of_ble_eq_true rfl) ?_
  intro p e s m args below meth c ls Q X hret hT hl hS
  have hx := X.1
  have hb := X.2.1
  have hl : lv_has ls 3 [(0, .ref (h 0)), (1, .int a_a), (2, .int a_b)] := hl
  refine lv_aload_n hx hb dX8_keeps_0 rfl (lv_at hl 0 rfl) ?_
  refine lv_iload_n hx hb dX8_keeps_1 rfl (lv_at hl 1 rfl) ?_
  refine lv_iload_n hx hb dX8_keeps_2 rfl (lv_at hl 2 rfl) ?_
  refine r_Vi (As := [.int a_a, .int a_b]) (rest := []) X hT hS (k_X8_hasPartAndYear hR a_a a_b) mk_X8_hasPartAndYear gm_727 rfl rfl (by decide) hd_X8_hasPartAndYear ⟨rfl, rfl⟩ ⟨Nat.le_of_ble_eq_true rfl, Nat.le_of_ble_eq_true rfl⟩ hl.1 rfl (Nat.le_of_ble_eq_true rfl) dX8_keeps_3 ⟨Nat.zero_le _, Nat.zero_le _⟩ (fun r1 i1 g1 H locs hq hT hS => ?_)
  obtain ⟨eh1, rfl⟩ := hq
  rw [(Prod.mk.inj eh1).1, (Prod.mk.inj eh1).2] at hT
  refine lv_if_eq (tgt := 21) hx hb dX8_keeps_6 (by decide) (fun c2 => ?_) (fun c2 => (x_ne (rg_k (by decide) : rg 0 0 0) (rg_k (by decide) : rg 0 0 0) (i_ne c2) (by decide)).elim)
  refine lv_bipush (v := (-2)) hx hb dX8_keeps_21 (by decide) ?_
  exact hret (-2) _ _ _ _ _ _ dX8_keeps_23 hT hS ⟨rfl, rfl⟩

set_option maxRecDepth 100000 in
set_option maxHeartbeats 4000000 in
theorem k_X8_waits {l : Launch} {D : va_G} {h : Nat → Nat} {cz : Nat → ClassId} {i : Nat → Nat → Int32} {g : Nat → Nat → Int64} (hR : Rg rF i) (a_a : Int32) : CtI l yX8_waits cX8_waits 4 (some .int) ({ frames := 2, cells := 0, slots := 0, locals := 41 } : Room) D h cz i g [.ref (h 0), .int a_a] (fun r u => u = (i, g) ∧ r = (-2)) := by
  refine k_I pn_X8_waits (Nat.le_of_ble_eq_true rfl) ?_
  intro p e s m args below meth c ls Q X hret hT hl hS
  have hx := X.1
  have hb := X.2.1
  have hl : lv_has ls 4 [(0, .ref (h 0)), (1, .int a_a)] := hl
  refine lv_aload_n hx hb dX8_waits_0 rfl (lv_at hl 0 rfl) ?_
  refine r_getr X hT 0 3 15 fk_8_32 rfl rfl (by decide) dX8_waits_1 ?_
  refine lv_iload_n hx hb dX8_waits_4 rfl (lv_at hl 1 rfl) ?_
  refine r_Vi (As := [.int a_a]) (rest := []) X hT hS (k_X6_hasYear_15 hR a_a) mk_X6_hasYear gm_731 rfl rfl (by decide) hd_X6_hasYear ⟨rfl, rfl⟩ ⟨Nat.le_of_ble_eq_true rfl, Nat.le_of_ble_eq_true rfl⟩ hl.1 rfl (Nat.le_of_ble_eq_true rfl) dX8_waits_5 ⟨Nat.zero_le _, Nat.zero_le _⟩ (fun r1 i1 g1 H locs hq hT hS => ?_)
  obtain ⟨eh1, rfl⟩ := hq
  rw [(Prod.mk.inj eh1).1, (Prod.mk.inj eh1).2] at hT
  refine lv_if_ne (tgt := 14) hx hb dX8_waits_8 (by decide) (fun c2 => (x_ne (rg_k (by decide) : rg 0 0 0) (rg_k (by decide) : rg 0 0 0) (i_ne c2) (by decide)).elim) (fun c2 => ?_)
  refine lv_bipush (v := (-2)) hx hb dX8_waits_11 (by decide) ?_
  exact hret (-2) _ _ _ _ _ _ dX8_waits_13 hT hS ⟨rfl, rfl⟩

set_option maxRecDepth 100000 in
set_option maxHeartbeats 4000000 in
theorem k_X8_next {l : Launch} {D : va_G} {h : Nat → Nat} {cz : Nat → ClassId} {i : Nat → Nat → Int32} {g : Nat → Nat → Int64} (hR : Rg rF i) (a_a : Int32) : CtI l yX8_next cX8_next 6 (some .int) ({ frames := 2, cells := 0, slots := 0, locals := 41 } : Room) D h cz i g [.ref (h 0), .int a_a] (fun r u => u = (i, g) ∧ r = (-2)) := by
  refine k_I pn_X8_next (Nat.le_of_ble_eq_true rfl) ?_
  intro p e s m args below meth c ls Q X hret hT hl hS
  have hx := X.1
  have hb := X.2.1
  have hl : lv_has ls 6 [(0, .ref (h 0)), (1, .int a_a)] := hl
  refine lv_aload_n hx hb dX8_next_0 rfl (lv_at hl 0 rfl) ?_
  refine r_getr X hT 0 3 15 fk_8_32 rfl rfl (by decide) dX8_next_1 ?_
  refine lv_iload_n hx hb dX8_next_4 rfl (lv_at hl 1 rfl) ?_
  refine r_Vi (As := [.int a_a]) (rest := []) X hT hS (k_X6_hasYear_15 hR a_a) mk_X6_hasYear gm_731 rfl rfl (by decide) hd_X6_hasYear ⟨rfl, rfl⟩ ⟨Nat.le_of_ble_eq_true rfl, Nat.le_of_ble_eq_true rfl⟩ hl.1 rfl (Nat.le_of_ble_eq_true rfl) dX8_next_5 ⟨Nat.zero_le _, Nat.zero_le _⟩ (fun r1 i1 g1 H locs hq hT hS => ?_)
  obtain ⟨eh1, rfl⟩ := hq
  rw [(Prod.mk.inj eh1).1, (Prod.mk.inj eh1).2] at hT
  refine lv_if_ne (tgt := 14) hx hb dX8_next_8 (by decide) (fun c2 => (x_ne (rg_k (by decide) : rg 0 0 0) (rg_k (by decide) : rg 0 0 0) (i_ne c2) (by decide)).elim) (fun c2 => ?_)
  refine lv_bipush (v := (-2)) hx hb dX8_next_11 (by decide) ?_
  exact hret (-2) _ _ _ _ _ _ dX8_next_13 hT hS ⟨rfl, rfl⟩

set_option maxRecDepth 100000 in
set_option maxHeartbeats 4000000 in
theorem k_X8_dull {l : Launch} {D : va_G} {h : Nat → Nat} {cz : Nat → ClassId} {i : Nat → Nat → Int32} {g : Nat → Nat → Int64} (hR : Rg rF i) (a_a : Int32) : CtI l yX8_dull cX8_dull 4 (some .int) ({ frames := 2, cells := 0, slots := 0, locals := 41 } : Room) D h cz i g [.ref (h 0), .int a_a] (fun r u => u = (i, g) ∧ r = (-2)) := by
  refine k_I pn_X8_dull (Nat.le_of_ble_eq_true rfl) ?_
  intro p e s m args below meth c ls Q X hret hT hl hS
  have hx := X.1
  have hb := X.2.1
  have hl : lv_has ls 4 [(0, .ref (h 0)), (1, .int a_a)] := hl
  refine lv_aload_n hx hb dX8_dull_0 rfl (lv_at hl 0 rfl) ?_
  refine r_getr X hT 0 3 15 fk_8_32 rfl rfl (by decide) dX8_dull_1 ?_
  refine lv_iload_n hx hb dX8_dull_4 rfl (lv_at hl 1 rfl) ?_
  refine r_Vi (As := [.int a_a]) (rest := []) X hT hS (k_X6_hasYear_15 hR a_a) mk_X6_hasYear gm_731 rfl rfl (by decide) hd_X6_hasYear ⟨rfl, rfl⟩ ⟨Nat.le_of_ble_eq_true rfl, Nat.le_of_ble_eq_true rfl⟩ hl.1 rfl (Nat.le_of_ble_eq_true rfl) dX8_dull_5 ⟨Nat.zero_le _, Nat.zero_le _⟩ (fun r1 i1 g1 H locs hq hT hS => ?_)
  obtain ⟨eh1, rfl⟩ := hq
  rw [(Prod.mk.inj eh1).1, (Prod.mk.inj eh1).2] at hT
  refine lv_if_ne (tgt := 14) hx hb dX8_dull_8 (by decide) (fun c2 => (x_ne (rg_k (by decide) : rg 0 0 0) (rg_k (by decide) : rg 0 0 0) (i_ne c2) (by decide)).elim) (fun c2 => ?_)
  refine lv_bipush (v := (-2)) hx hb dX8_dull_11 (by decide) ?_
  exact hret (-2) _ _ _ _ _ _ dX8_dull_13 hT hS ⟨rfl, rfl⟩

set_option maxRecDepth 100000 in
set_option maxHeartbeats 4000000 in
theorem k_X8_dies {l : Launch} {D : va_G} {h : Nat → Nat} {cz : Nat → ClassId} {i : Nat → Nat → Int32} {g : Nat → Nat → Int64} (hR : Rg rF i) (a_a : Int32) : CtI l yX8_dies cX8_dies 3 (some .int) ({ frames := 1, cells := 0, slots := 0, locals := 21 } : Room) D h cz i g [.ref (h 0), .int a_a] (fun r u => u = (i, g) ∧ r = (-2)) := by
  refine k_I pn_X8_dies (Nat.le_of_ble_eq_true rfl) ?_
  intro p e s m args below meth c ls Q X hret hT hl hS
  have hx := X.1
  have hb := X.2.1
  have hl : lv_has ls 3 [(0, .ref (h 0)), (1, .int a_a)] := hl
  refine lv_aload_n hx hb dX8_dies_0 rfl (lv_at hl 0 rfl) ?_
  refine r_getr X hT 0 3 15 fk_8_32 rfl rfl (by decide) dX8_dies_1 ?_
  refine lv_iload_n hx hb dX8_dies_4 rfl (lv_at hl 1 rfl) ?_
  refine r_Vi (As := [.int a_a]) (rest := []) X hT hS (k_X6_hasPart_15 hR a_a) mk_X6_hasPart gm_669 rfl rfl (by decide) hd_X6_hasPart ⟨rfl, rfl⟩ ⟨Nat.le_of_ble_eq_true rfl, Nat.le_of_ble_eq_true rfl⟩ hl.1 rfl (Nat.le_of_ble_eq_true rfl) dX8_dies_5 ⟨Nat.zero_le _, Nat.zero_le _⟩ (fun r1 i1 g1 H locs hq hT hS => ?_)
  obtain ⟨eh1, rfl⟩ := hq
  rw [(Prod.mk.inj eh1).1, (Prod.mk.inj eh1).2] at hT
  refine lv_if_ne (tgt := 14) hx hb dX8_dies_8 (by decide) (fun c2 => (x_ne (rg_k (by decide) : rg 0 0 0) (rg_k (by decide) : rg 0 0 0) (i_ne c2) (by decide)).elim) (fun c2 => ?_)
  refine lv_bipush (v := (-2)) hx hb dX8_dies_11 (by decide) ?_
  exact hret (-2) _ _ _ _ _ _ dX8_dies_13 hT hS ⟨rfl, rfl⟩

set_option maxRecDepth 100000 in
set_option maxHeartbeats 4000000 in
theorem k_X8_ages {l : Launch} {D : va_G} {h : Nat → Nat} {cz : Nat → ClassId} {i : Nat → Nat → Int32} {g : Nat → Nat → Int64} (hR : Rg rF i) (a_a : Int32) : CtI l yX8_ages cX8_ages 2 (some .int) ({ frames := 1, cells := 0, slots := 0, locals := 21 } : Room) D h cz i g [.ref (h 0), .int a_a] (fun r u => u = (i, g) ∧ r = (-100)) := by
  refine k_I pn_X8_ages (Nat.le_of_ble_eq_true rfl) ?_
  intro p e s m args below meth c ls Q X hret hT hl hS
  have hx := X.1
  have hb := X.2.1
  have hl : lv_has ls 2 [(0, .ref (h 0)), (1, .int a_a)] := hl
  refine lv_aload_n hx hb dX8_ages_0 rfl (lv_at hl 0 rfl) ?_
  refine r_getr X hT 0 3 15 fk_8_32 rfl rfl (by decide) dX8_ages_1 ?_
  refine lv_iload_n hx hb dX8_ages_4 rfl (lv_at hl 1 rfl) ?_
  refine r_Vi (As := [.int a_a]) (rest := []) X hT hS (k_X6_hasPart_15 hR a_a) mk_X6_hasPart gm_669 rfl rfl (by decide) hd_X6_hasPart ⟨rfl, rfl⟩ ⟨Nat.le_of_ble_eq_true rfl, Nat.le_of_ble_eq_true rfl⟩ hl.1 rfl (Nat.le_of_ble_eq_true rfl) dX8_ages_5 ⟨Nat.zero_le _, Nat.zero_le _⟩ (fun r1 i1 g1 H locs hq hT hS => ?_)
  obtain ⟨eh1, rfl⟩ := hq
  rw [(Prod.mk.inj eh1).1, (Prod.mk.inj eh1).2] at hT
  refine lv_if_ne (tgt := 14) hx hb dX8_ages_8 (by decide) (fun c2 => (x_ne (rg_k (by decide) : rg 0 0 0) (rg_k (by decide) : rg 0 0 0) (i_ne c2) (by decide)).elim) (fun c2 => ?_)
  refine lv_bipush (v := (-100)) hx hb dX8_ages_11 (by decide) ?_
  exact hret (-100) _ _ _ _ _ _ dX8_ages_13 hT hS ⟨rfl, rfl⟩

set_option maxRecDepth 100000 in
set_option maxHeartbeats 4000000 in
theorem k_X8_cut {l : Launch} {D : va_G} {h : Nat → Nat} {cz : Nat → ClassId} {i : Nat → Nat → Int32} {g : Nat → Nat → Int64} (hR : Rg rF i) (a_a : Int32) : CtI l yX8_cut cX8_cut 5 (some .int) ({ frames := 2, cells := 0, slots := 0, locals := 41 } : Room) D h cz i g [.ref (h 0), .int a_a] (fun r u => u = (i, g) ∧ r = (-2)) := by
  refine k_I pn_X8_cut (Nat.le_of_ble_eq_true rfl) ?_
  intro p e s m args below meth c ls Q X hret hT hl hS
  have hx := X.1
  have hb := X.2.1
  have hl : lv_has ls 5 [(0, .ref (h 0)), (1, .int a_a)] := hl
  refine lv_aload_n hx hb dX8_cut_0 rfl (lv_at hl 0 rfl) ?_
  refine r_getr X hT 0 3 15 fk_8_32 rfl rfl (by decide) dX8_cut_1 ?_
  refine lv_iload_n hx hb dX8_cut_4 rfl (lv_at hl 1 rfl) ?_
  refine r_Vi (As := [.int a_a]) (rest := []) X hT hS (k_X6_hasYear_15 hR a_a) mk_X6_hasYear gm_731 rfl rfl (by decide) hd_X6_hasYear ⟨rfl, rfl⟩ ⟨Nat.le_of_ble_eq_true rfl, Nat.le_of_ble_eq_true rfl⟩ hl.1 rfl (Nat.le_of_ble_eq_true rfl) dX8_cut_5 ⟨Nat.zero_le _, Nat.zero_le _⟩ (fun r1 i1 g1 H locs hq hT hS => ?_)
  obtain ⟨eh1, rfl⟩ := hq
  rw [(Prod.mk.inj eh1).1, (Prod.mk.inj eh1).2] at hT
  refine lv_if_ne (tgt := 14) hx hb dX8_cut_8 (by decide) (fun c2 => (x_ne (rg_k (by decide) : rg 0 0 0) (rg_k (by decide) : rg 0 0 0) (i_ne c2) (by decide)).elim) (fun c2 => ?_)
  refine lv_bipush (v := (-2)) hx hb dX8_cut_11 (by decide) ?_
  exact hret (-2) _ _ _ _ _ _ dX8_cut_13 hT hS ⟨rfl, rfl⟩

set_option maxRecDepth 100000 in
set_option maxHeartbeats 4000000 in
theorem k_X8_sharp {l : Launch} {D : va_G} {h : Nat → Nat} {cz : Nat → ClassId} {i : Nat → Nat → Int32} {g : Nat → Nat → Int64} (hR : Rg rF i)  : CtI l yX8_sharp cX8_sharp 1 (some .int) ({ frames := 1, cells := 0, slots := 0, locals := 20 } : Room) D h cz i g [.ref (h 0)] (fun r u => u = (i, g) ∧ r = (-2)) := by
  refine k_I pn_X8_sharp (Nat.le_of_ble_eq_true rfl) ?_
  intro p e s m args below meth c ls Q X hret hT hl hS
  have hx := X.1
  have hb := X.2.1
  have hl : lv_has ls 1 [(0, .ref (h 0))] := hl
  refine lv_aload_n hx hb dX8_sharp_0 rfl (lv_at hl 0 rfl) ?_
  refine r_getr X hT 0 3 15 fk_8_32 rfl rfl (by decide) dX8_sharp_1 ?_
  refine r_Vi (As := []) (rest := []) X hT hS (k_X6_isTold_15 hR) mk_X6_isTold gm_698 rfl rfl (by decide) hd_X6_isTold ⟨rfl, rfl⟩ ⟨Nat.le_of_ble_eq_true rfl, Nat.le_of_ble_eq_true rfl⟩ hl.1 rfl (Nat.le_of_ble_eq_true rfl) dX8_sharp_4 ⟨Nat.zero_le _, Nat.zero_le _⟩ (fun r1 i1 g1 H locs hq hT hS => ?_)
  obtain ⟨eh1, rfl⟩ := hq
  rw [(Prod.mk.inj eh1).1, (Prod.mk.inj eh1).2] at hT
  refine lv_if_eq (tgt := 17) hx hb dX8_sharp_7 (by decide) (fun c2 => ?_) (fun c2 => (x_ne (rg_k (by decide) : rg 0 0 0) (rg_k (by decide) : rg 0 0 0) (i_ne c2) (by decide)).elim)
  refine lv_bipush (v := (-2)) hx hb dX8_sharp_17 (by decide) ?_
  exact hret (-2) _ _ _ _ _ _ dX8_sharp_19 hT hS ⟨rfl, rfl⟩

set_option maxRecDepth 100000 in
set_option maxHeartbeats 4000000 in
theorem k_X8_uncut {l : Launch} {D : va_G} {h : Nat → Nat} {cz : Nat → ClassId} {i : Nat → Nat → Int32} {g : Nat → Nat → Int64} (hR : Rg rF i)  : CtI l yX8_uncut cX8_uncut 1 (some .int) ({ frames := 1, cells := 0, slots := 0, locals := 20 } : Room) D h cz i g [.ref (h 0)] (fun r u => u = (i, g) ∧ r = (-2)) := by
  refine k_I pn_X8_uncut (Nat.le_of_ble_eq_true rfl) ?_
  intro p e s m args below meth c ls Q X hret hT hl hS
  have hx := X.1
  have hb := X.2.1
  have hl : lv_has ls 1 [(0, .ref (h 0))] := hl
  refine lv_aload_n hx hb dX8_uncut_0 rfl (lv_at hl 0 rfl) ?_
  refine r_getr X hT 0 3 15 fk_8_32 rfl rfl (by decide) dX8_uncut_1 ?_
  refine r_Vi (As := []) (rest := []) X hT hS (k_X6_isTold_15 hR) mk_X6_isTold gm_698 rfl rfl (by decide) hd_X6_isTold ⟨rfl, rfl⟩ ⟨Nat.le_of_ble_eq_true rfl, Nat.le_of_ble_eq_true rfl⟩ hl.1 rfl (Nat.le_of_ble_eq_true rfl) dX8_uncut_4 ⟨Nat.zero_le _, Nat.zero_le _⟩ (fun r1 i1 g1 H locs hq hT hS => ?_)
  obtain ⟨eh1, rfl⟩ := hq
  rw [(Prod.mk.inj eh1).1, (Prod.mk.inj eh1).2] at hT
  refine lv_if_eq (tgt := 17) hx hb dX8_uncut_7 (by decide) (fun c2 => ?_) (fun c2 => (x_ne (rg_k (by decide) : rg 0 0 0) (rg_k (by decide) : rg 0 0 0) (i_ne c2) (by decide)).elim)
  refine lv_bipush (v := (-2)) hx hb dX8_uncut_17 (by decide) ?_
  exact hret (-2) _ _ _ _ _ _ dX8_uncut_19 hT hS ⟨rfl, rfl⟩

set_option maxRecDepth 100000 in
set_option maxHeartbeats 4000000 in
theorem k_X8_done {l : Launch} {D : va_G} {h : Nat → Nat} {cz : Nat → ClassId} {i : Nat → Nat → Int32} {g : Nat → Nat → Int64} (hR : Rg rF i)  : CtI l yX8_done cX8_done 2 (some .int) ({ frames := 1, cells := 0, slots := 0, locals := 20 } : Room) D h cz i g [.ref (h 0)] (fun r u => u = (i, g) ∧ r = (-2)) := by
  refine k_I pn_X8_done (Nat.le_of_ble_eq_true rfl) ?_
  intro p e s m args below meth c ls Q X hret hT hl hS
  have hx := X.1
  have hb := X.2.1
  have hl : lv_has ls 2 [(0, .ref (h 0))] := hl
  refine lv_aload_n hx hb dX8_done_0 rfl (lv_at hl 0 rfl) ?_
  refine r_getr X hT 0 3 15 fk_8_32 rfl rfl (by decide) dX8_done_1 ?_
  refine r_Vi (As := []) (rest := []) X hT hS (k_X6_isTold_15 hR) mk_X6_isTold gm_698 rfl rfl (by decide) hd_X6_isTold ⟨rfl, rfl⟩ ⟨Nat.le_of_ble_eq_true rfl, Nat.le_of_ble_eq_true rfl⟩ hl.1 rfl (Nat.le_of_ble_eq_true rfl) dX8_done_4 ⟨Nat.zero_le _, Nat.zero_le _⟩ (fun r1 i1 g1 H locs hq hT hS => ?_)
  obtain ⟨eh1, rfl⟩ := hq
  rw [(Prod.mk.inj eh1).1, (Prod.mk.inj eh1).2] at hT
  refine lv_if_ne (tgt := 13) hx hb dX8_done_7 (by decide) (fun c2 => (x_ne (rg_k (by decide) : rg 0 0 0) (rg_k (by decide) : rg 0 0 0) (i_ne c2) (by decide)).elim) (fun c2 => ?_)
  refine lv_bipush (v := (-2)) hx hb dX8_done_10 (by decide) ?_
  exact hret (-2) _ _ _ _ _ _ dX8_done_12 hT hS ⟨rfl, rfl⟩

set_option maxRecDepth 100000 in
set_option maxHeartbeats 4000000 in
theorem k_X8_rush {l : Launch} {D : va_G} {h : Nat → Nat} {cz : Nat → ClassId} {i : Nat → Nat → Int32} {g : Nat → Nat → Int64} (hR : Rg rF i)  : CtI l yX8_rush cX8_rush 3 (some .int) ({ frames := 1, cells := 0, slots := 0, locals := 20 } : Room) D h cz i g [.ref (h 0)] (fun r u => u = (i, g) ∧ r = (-2)) := by
  refine k_I pn_X8_rush (Nat.le_of_ble_eq_true rfl) ?_
  intro p e s m args below meth c ls Q X hret hT hl hS
  have hx := X.1
  have hb := X.2.1
  have hl : lv_has ls 3 [(0, .ref (h 0))] := hl
  refine lv_aload_n hx hb dX8_rush_0 rfl (lv_at hl 0 rfl) ?_
  refine r_getr X hT 0 3 15 fk_8_32 rfl rfl (by decide) dX8_rush_1 ?_
  refine r_Vi (As := []) (rest := []) X hT hS (k_X6_isTold_15 hR) mk_X6_isTold gm_698 rfl rfl (by decide) hd_X6_isTold ⟨rfl, rfl⟩ ⟨Nat.le_of_ble_eq_true rfl, Nat.le_of_ble_eq_true rfl⟩ hl.1 rfl (Nat.le_of_ble_eq_true rfl) dX8_rush_4 ⟨Nat.zero_le _, Nat.zero_le _⟩ (fun r1 i1 g1 H locs hq hT hS => ?_)
  obtain ⟨eh1, rfl⟩ := hq
  rw [(Prod.mk.inj eh1).1, (Prod.mk.inj eh1).2] at hT
  refine lv_if_ne (tgt := 13) hx hb dX8_rush_7 (by decide) (fun c2 => (x_ne (rg_k (by decide) : rg 0 0 0) (rg_k (by decide) : rg 0 0 0) (i_ne c2) (by decide)).elim) (fun c2 => ?_)
  refine lv_bipush (v := (-2)) hx hb dX8_rush_10 (by decide) ?_
  exact hret (-2) _ _ _ _ _ _ dX8_rush_12 hT hS ⟨rfl, rfl⟩

set_option maxRecDepth 100000 in
set_option maxHeartbeats 4000000 in
theorem k_X8_with {l : Launch} {D : va_G} {h : Nat → Nat} {cz : Nat → ClassId} {i : Nat → Nat → Int32} {g : Nat → Nat → Int64} (hR : Rg rF i) (a_a : Int32) : CtI l yX8_with cX8_with 4 (some .int) ({ frames := 1, cells := 0, slots := 0, locals := 21 } : Room) D h cz i g [.ref (h 0), .int a_a] (fun r u => u = (i, g) ∧ r = (-2)) := by
  refine k_I pn_X8_with (Nat.le_of_ble_eq_true rfl) ?_
  intro p e s m args below meth c ls Q X hret hT hl hS
  have hx := X.1
  have hb := X.2.1
  have hl : lv_has ls 4 [(0, .ref (h 0)), (1, .int a_a)] := hl
  refine lv_aload_n hx hb dX8_with_0 rfl (lv_at hl 0 rfl) ?_
  refine r_getr X hT 0 3 15 fk_8_32 rfl rfl (by decide) dX8_with_1 ?_
  refine lv_iload_n hx hb dX8_with_4 rfl (lv_at hl 1 rfl) ?_
  refine r_Vi (As := [.int a_a]) (rest := []) X hT hS (k_X6_hasPart_15 hR a_a) mk_X6_hasPart gm_669 rfl rfl (by decide) hd_X6_hasPart ⟨rfl, rfl⟩ ⟨Nat.le_of_ble_eq_true rfl, Nat.le_of_ble_eq_true rfl⟩ hl.1 rfl (Nat.le_of_ble_eq_true rfl) dX8_with_5 ⟨Nat.zero_le _, Nat.zero_le _⟩ (fun r1 i1 g1 H locs hq hT hS => ?_)
  obtain ⟨eh1, rfl⟩ := hq
  rw [(Prod.mk.inj eh1).1, (Prod.mk.inj eh1).2] at hT
  refine lv_if_ne (tgt := 14) hx hb dX8_with_8 (by decide) (fun c2 => (x_ne (rg_k (by decide) : rg 0 0 0) (rg_k (by decide) : rg 0 0 0) (i_ne c2) (by decide)).elim) (fun c2 => ?_)
  refine lv_bipush (v := (-2)) hx hb dX8_with_11 (by decide) ?_
  exact hret (-2) _ _ _ _ _ _ dX8_with_13 hT hS ⟨rfl, rfl⟩

set_option maxRecDepth 100000 in
set_option maxHeartbeats 4000000 in
theorem k_X8_charms {l : Launch} {D : va_G} {h : Nat → Nat} {cz : Nat → ClassId} {i : Nat → Nat → Int32} {g : Nat → Nat → Int64} (hR : Rg rF i)  : CtI l yX8_charms cX8_charms 4 (some .int) ({ frames := 1, cells := 0, slots := 0, locals := 20 } : Room) D h cz i g [.ref (h 0)] (fun r u => u = (i, g) ∧ r = (-2)) := by
  refine k_I pn_X8_charms (Nat.le_of_ble_eq_true rfl) ?_
  intro p e s m args below meth c ls Q X hret hT hl hS
  have hx := X.1
  have hb := X.2.1
  have hl : lv_has ls 4 [(0, .ref (h 0))] := hl
  refine lv_aload_n hx hb dX8_charms_0 rfl (lv_at hl 0 rfl) ?_
  refine r_getr X hT 0 3 15 fk_8_32 rfl rfl (by decide) dX8_charms_1 ?_
  refine r_Vi (As := []) (rest := []) X hT hS (k_X6_isTold_15 hR) mk_X6_isTold gm_698 rfl rfl (by decide) hd_X6_isTold ⟨rfl, rfl⟩ ⟨Nat.le_of_ble_eq_true rfl, Nat.le_of_ble_eq_true rfl⟩ hl.1 rfl (Nat.le_of_ble_eq_true rfl) dX8_charms_4 ⟨Nat.zero_le _, Nat.zero_le _⟩ (fun r1 i1 g1 H locs hq hT hS => ?_)
  obtain ⟨eh1, rfl⟩ := hq
  rw [(Prod.mk.inj eh1).1, (Prod.mk.inj eh1).2] at hT
  refine lv_if_ne (tgt := 13) hx hb dX8_charms_7 (by decide) (fun c2 => (x_ne (rg_k (by decide) : rg 0 0 0) (rg_k (by decide) : rg 0 0 0) (i_ne c2) (by decide)).elim) (fun c2 => ?_)
  refine lv_bipush (v := (-2)) hx hb dX8_charms_10 (by decide) ?_
  exact hret (-2) _ _ _ _ _ _ dX8_charms_12 hT hS ⟨rfl, rfl⟩

set_option maxRecDepth 100000 in
set_option maxHeartbeats 4000000 in
theorem k_X8_best {l : Launch} {D : va_G} {h : Nat → Nat} {cz : Nat → ClassId} {i : Nat → Nat → Int32} {g : Nat → Nat → Int64} (hR : Rg rF i) (a_a : Int32) : CtI l yX8_best cX8_best 4 (some .int) ({ frames := 1, cells := 0, slots := 0, locals := 21 } : Room) D h cz i g [.ref (h 0), .int a_a] (fun r u => u = (i, g) ∧ r = (-2)) := by
  refine k_I pn_X8_best (Nat.le_of_ble_eq_true rfl) ?_
  intro p e s m args below meth c ls Q X hret hT hl hS
  have hx := X.1
  have hb := X.2.1
  have hl : lv_has ls 4 [(0, .ref (h 0)), (1, .int a_a)] := hl
  refine lv_aload_n hx hb dX8_best_0 rfl (lv_at hl 0 rfl) ?_
  refine r_getr X hT 0 3 15 fk_8_32 rfl rfl (by decide) dX8_best_1 ?_
  refine lv_iload_n hx hb dX8_best_4 rfl (lv_at hl 1 rfl) ?_
  refine r_Vi (As := [.int a_a]) (rest := []) X hT hS (k_X6_hasPart_15 hR a_a) mk_X6_hasPart gm_669 rfl rfl (by decide) hd_X6_hasPart ⟨rfl, rfl⟩ ⟨Nat.le_of_ble_eq_true rfl, Nat.le_of_ble_eq_true rfl⟩ hl.1 rfl (Nat.le_of_ble_eq_true rfl) dX8_best_5 ⟨Nat.zero_le _, Nat.zero_le _⟩ (fun r1 i1 g1 H locs hq hT hS => ?_)
  obtain ⟨eh1, rfl⟩ := hq
  rw [(Prod.mk.inj eh1).1, (Prod.mk.inj eh1).2] at hT
  refine lv_if_ne (tgt := 14) hx hb dX8_best_8 (by decide) (fun c2 => (x_ne (rg_k (by decide) : rg 0 0 0) (rg_k (by decide) : rg 0 0 0) (i_ne c2) (by decide)).elim) (fun c2 => ?_)
  refine lv_bipush (v := (-2)) hx hb dX8_best_11 (by decide) ?_
  exact hret (-2) _ _ _ _ _ _ dX8_best_13 hT hS ⟨rfl, rfl⟩

set_option maxRecDepth 100000 in
set_option maxHeartbeats 4000000 in
theorem k_X8_peak {l : Launch} {D : va_G} {h : Nat → Nat} {cz : Nat → ClassId} {i : Nat → Nat → Int32} {g : Nat → Nat → Int64} (hR : Rg rF i)  : CtI l yX8_peak cX8_peak 5 (some .int) ({ frames := 1, cells := 0, slots := 0, locals := 20 } : Room) D h cz i g [.ref (h 0)] (fun r u => u = (i, g) ∧ r = (-2)) := by
  refine k_I pn_X8_peak (Nat.le_of_ble_eq_true rfl) ?_
  intro p e s m args below meth c ls Q X hret hT hl hS
  have hx := X.1
  have hb := X.2.1
  have hl : lv_has ls 5 [(0, .ref (h 0))] := hl
  refine lv_aload_n hx hb dX8_peak_0 rfl (lv_at hl 0 rfl) ?_
  refine r_getr X hT 0 3 15 fk_8_32 rfl rfl (by decide) dX8_peak_1 ?_
  refine r_Vi (As := []) (rest := []) X hT hS (k_X6_isTold_15 hR) mk_X6_isTold gm_698 rfl rfl (by decide) hd_X6_isTold ⟨rfl, rfl⟩ ⟨Nat.le_of_ble_eq_true rfl, Nat.le_of_ble_eq_true rfl⟩ hl.1 rfl (Nat.le_of_ble_eq_true rfl) dX8_peak_4 ⟨Nat.zero_le _, Nat.zero_le _⟩ (fun r1 i1 g1 H locs hq hT hS => ?_)
  obtain ⟨eh1, rfl⟩ := hq
  rw [(Prod.mk.inj eh1).1, (Prod.mk.inj eh1).2] at hT
  refine lv_if_ne (tgt := 13) hx hb dX8_peak_7 (by decide) (fun c2 => (x_ne (rg_k (by decide) : rg 0 0 0) (rg_k (by decide) : rg 0 0 0) (i_ne c2) (by decide)).elim) (fun c2 => ?_)
  refine lv_bipush (v := (-2)) hx hb dX8_peak_10 (by decide) ?_
  exact hret (-2) _ _ _ _ _ _ dX8_peak_12 hT hS ⟨rfl, rfl⟩

set_option maxRecDepth 100000 in
set_option maxHeartbeats 4000000 in
theorem k_X8_first {l : Launch} {D : va_G} {h : Nat → Nat} {cz : Nat → ClassId} {i : Nat → Nat → Int32} {g : Nat → Nat → Int64} (hR : Rg rF i)  : CtI l yX8_first cX8_first 2 (some .int) ({ frames := 1, cells := 0, slots := 0, locals := 20 } : Room) D h cz i g [.ref (h 0)] (fun r u => u = (i, g) ∧ r = (-2)) := by
  refine k_I pn_X8_first (Nat.le_of_ble_eq_true rfl) ?_
  intro p e s m args below meth c ls Q X hret hT hl hS
  have hx := X.1
  have hb := X.2.1
  have hl : lv_has ls 2 [(0, .ref (h 0))] := hl
  refine lv_aload_n hx hb dX8_first_0 rfl (lv_at hl 0 rfl) ?_
  refine r_getr X hT 0 3 15 fk_8_32 rfl rfl (by decide) dX8_first_1 ?_
  refine r_Vi (As := []) (rest := []) X hT hS (k_X6_isTold_15 hR) mk_X6_isTold gm_698 rfl rfl (by decide) hd_X6_isTold ⟨rfl, rfl⟩ ⟨Nat.le_of_ble_eq_true rfl, Nat.le_of_ble_eq_true rfl⟩ hl.1 rfl (Nat.le_of_ble_eq_true rfl) dX8_first_4 ⟨Nat.zero_le _, Nat.zero_le _⟩ (fun r1 i1 g1 H locs hq hT hS => ?_)
  obtain ⟨eh1, rfl⟩ := hq
  rw [(Prod.mk.inj eh1).1, (Prod.mk.inj eh1).2] at hT
  refine lv_if_ne (tgt := 13) hx hb dX8_first_7 (by decide) (fun c2 => (x_ne (rg_k (by decide) : rg 0 0 0) (rg_k (by decide) : rg 0 0 0) (i_ne c2) (by decide)).elim) (fun c2 => ?_)
  refine lv_bipush (v := (-2)) hx hb dX8_first_10 (by decide) ?_
  exact hret (-2) _ _ _ _ _ _ dX8_first_12 hT hS ⟨rfl, rfl⟩

set_option maxRecDepth 100000 in
set_option maxHeartbeats 4000000 in
theorem k_X8_quiet {l : Launch} {D : va_G} {h : Nat → Nat} {cz : Nat → ClassId} {i : Nat → Nat → Int32} {g : Nat → Nat → Int64} (hR : Rg rF i)  : CtI l yX8_quiet cX8_quiet 3 (some .int) ({ frames := 1, cells := 0, slots := 0, locals := 20 } : Room) D h cz i g [.ref (h 0)] (fun r u => u = (i, g) ∧ r = (-2)) := by
  refine k_I pn_X8_quiet (Nat.le_of_ble_eq_true rfl) ?_
  intro p e s m args below meth c ls Q X hret hT hl hS
  have hx := X.1
  have hb := X.2.1
  have hl : lv_has ls 3 [(0, .ref (h 0))] := hl
  refine lv_aload_n hx hb dX8_quiet_0 rfl (lv_at hl 0 rfl) ?_
  refine r_getr X hT 0 3 15 fk_8_32 rfl rfl (by decide) dX8_quiet_1 ?_
  refine r_Vi (As := []) (rest := []) X hT hS (k_X6_isTold_15 hR) mk_X6_isTold gm_698 rfl rfl (by decide) hd_X6_isTold ⟨rfl, rfl⟩ ⟨Nat.le_of_ble_eq_true rfl, Nat.le_of_ble_eq_true rfl⟩ hl.1 rfl (Nat.le_of_ble_eq_true rfl) dX8_quiet_4 ⟨Nat.zero_le _, Nat.zero_le _⟩ (fun r1 i1 g1 H locs hq hT hS => ?_)
  obtain ⟨eh1, rfl⟩ := hq
  rw [(Prod.mk.inj eh1).1, (Prod.mk.inj eh1).2] at hT
  refine lv_if_ne (tgt := 13) hx hb dX8_quiet_7 (by decide) (fun c2 => (x_ne (rg_k (by decide) : rg 0 0 0) (rg_k (by decide) : rg 0 0 0) (i_ne c2) (by decide)).elim) (fun c2 => ?_)
  refine lv_bipush (v := (-2)) hx hb dX8_quiet_10 (by decide) ?_
  exact hret (-2) _ _ _ _ _ _ dX8_quiet_12 hT hS ⟨rfl, rfl⟩

set_option maxRecDepth 100000 in
set_option maxHeartbeats 4000000 in
theorem k_X8_lone {l : Launch} {D : va_G} {h : Nat → Nat} {cz : Nat → ClassId} {i : Nat → Nat → Int32} {g : Nat → Nat → Int64} (hR : Rg rF i) (a_a : Int32) : CtI l yX8_lone cX8_lone 6 (some .int) ({ frames := 2, cells := 0, slots := 0, locals := 41 } : Room) D h cz i g [.ref (h 0), .int a_a] (fun r u => u = (i, g) ∧ r = (-2)) := by
  refine k_I pn_X8_lone (Nat.le_of_ble_eq_true rfl) ?_
  intro p e s m args below meth c ls Q X hret hT hl hS
  have hx := X.1
  have hb := X.2.1
  have hl : lv_has ls 6 [(0, .ref (h 0)), (1, .int a_a)] := hl
  refine lv_aload_n hx hb dX8_lone_0 rfl (lv_at hl 0 rfl) ?_
  refine r_getr X hT 0 3 15 fk_8_32 rfl rfl (by decide) dX8_lone_1 ?_
  refine lv_iload_n hx hb dX8_lone_4 rfl (lv_at hl 1 rfl) ?_
  refine r_Vi (As := [.int a_a]) (rest := []) X hT hS (k_X6_hasYear_15 hR a_a) mk_X6_hasYear gm_731 rfl rfl (by decide) hd_X6_hasYear ⟨rfl, rfl⟩ ⟨Nat.le_of_ble_eq_true rfl, Nat.le_of_ble_eq_true rfl⟩ hl.1 rfl (Nat.le_of_ble_eq_true rfl) dX8_lone_5 ⟨Nat.zero_le _, Nat.zero_le _⟩ (fun r1 i1 g1 H locs hq hT hS => ?_)
  obtain ⟨eh1, rfl⟩ := hq
  rw [(Prod.mk.inj eh1).1, (Prod.mk.inj eh1).2] at hT
  refine lv_if_ne (tgt := 14) hx hb dX8_lone_8 (by decide) (fun c2 => (x_ne (rg_k (by decide) : rg 0 0 0) (rg_k (by decide) : rg 0 0 0) (i_ne c2) (by decide)).elim) (fun c2 => ?_)
  refine lv_bipush (v := (-2)) hx hb dX8_lone_11 (by decide) ?_
  exact hret (-2) _ _ _ _ _ _ dX8_lone_13 hT hS ⟨rfl, rfl⟩

set_option maxRecDepth 100000 in
set_option maxHeartbeats 4000000 in
theorem k_X8_stalest {l : Launch} {D : va_G} {h : Nat → Nat} {cz : Nat → ClassId} {i : Nat → Nat → Int32} {g : Nat → Nat → Int64} (hR : Rg rF i) (a_a : Int32) : CtI l yX8_stalest cX8_stalest 7 (some .int) ({ frames := 2, cells := 0, slots := 0, locals := 41 } : Room) D h cz i g [.ref (h 0), .int a_a] (fun r u => u = (i, g) ∧ r = (-2)) := by
  refine k_I pn_X8_stalest (Nat.le_of_ble_eq_true rfl) ?_
  intro p e s m args below meth c ls Q X hret hT hl hS
  have hx := X.1
  have hb := X.2.1
  have hl : lv_has ls 7 [(0, .ref (h 0)), (1, .int a_a)] := hl
  refine lv_aload_n hx hb dX8_stalest_0 rfl (lv_at hl 0 rfl) ?_
  refine r_getr X hT 0 3 15 fk_8_32 rfl rfl (by decide) dX8_stalest_1 ?_
  refine lv_iload_n hx hb dX8_stalest_4 rfl (lv_at hl 1 rfl) ?_
  refine r_Vi (As := [.int a_a]) (rest := []) X hT hS (k_X6_hasYear_15 hR a_a) mk_X6_hasYear gm_731 rfl rfl (by decide) hd_X6_hasYear ⟨rfl, rfl⟩ ⟨Nat.le_of_ble_eq_true rfl, Nat.le_of_ble_eq_true rfl⟩ hl.1 rfl (Nat.le_of_ble_eq_true rfl) dX8_stalest_5 ⟨Nat.zero_le _, Nat.zero_le _⟩ (fun r1 i1 g1 H locs hq hT hS => ?_)
  obtain ⟨eh1, rfl⟩ := hq
  rw [(Prod.mk.inj eh1).1, (Prod.mk.inj eh1).2] at hT
  refine lv_if_ne (tgt := 14) hx hb dX8_stalest_8 (by decide) (fun c2 => (x_ne (rg_k (by decide) : rg 0 0 0) (rg_k (by decide) : rg 0 0 0) (i_ne c2) (by decide)).elim) (fun c2 => ?_)
  refine lv_bipush (v := (-2)) hx hb dX8_stalest_11 (by decide) ?_
  exact hret (-2) _ _ _ _ _ _ dX8_stalest_13 hT hS ⟨rfl, rfl⟩

set_option maxRecDepth 100000 in
set_option maxHeartbeats 4000000 in
theorem k_X8_pieces {l : Launch} {D : va_G} {h : Nat → Nat} {cz : Nat → ClassId} {i : Nat → Nat → Int32} {g : Nat → Nat → Int64} (hR : Rg rF i)  : CtI l yX8_pieces cX8_pieces 4 (some .int) ({ frames := 1, cells := 0, slots := 0, locals := 20 } : Room) D h cz i g [.ref (h 0)] (fun r u => u = (i, g) ∧ r = (-2)) := by
  refine k_I pn_X8_pieces (Nat.le_of_ble_eq_true rfl) ?_
  intro p e s m args below meth c ls Q X hret hT hl hS
  have hx := X.1
  have hb := X.2.1
  have hl : lv_has ls 4 [(0, .ref (h 0))] := hl
  refine lv_aload_n hx hb dX8_pieces_0 rfl (lv_at hl 0 rfl) ?_
  refine r_getr X hT 0 3 15 fk_8_32 rfl rfl (by decide) dX8_pieces_1 ?_
  refine r_Vi (As := []) (rest := []) X hT hS (k_X6_isTold_15 hR) mk_X6_isTold gm_698 rfl rfl (by decide) hd_X6_isTold ⟨rfl, rfl⟩ ⟨Nat.le_of_ble_eq_true rfl, Nat.le_of_ble_eq_true rfl⟩ hl.1 rfl (Nat.le_of_ble_eq_true rfl) dX8_pieces_4 ⟨Nat.zero_le _, Nat.zero_le _⟩ (fun r1 i1 g1 H locs hq hT hS => ?_)
  obtain ⟨eh1, rfl⟩ := hq
  rw [(Prod.mk.inj eh1).1, (Prod.mk.inj eh1).2] at hT
  refine lv_if_ne (tgt := 13) hx hb dX8_pieces_7 (by decide) (fun c2 => (x_ne (rg_k (by decide) : rg 0 0 0) (rg_k (by decide) : rg 0 0 0) (i_ne c2) (by decide)).elim) (fun c2 => ?_)
  refine lv_bipush (v := (-2)) hx hb dX8_pieces_10 (by decide) ?_
  exact hret (-2) _ _ _ _ _ _ dX8_pieces_12 hT hS ⟨rfl, rfl⟩

set_option maxRecDepth 100000 in
set_option maxHeartbeats 4000000 in
theorem k_X8_lost {l : Launch} {D : va_G} {h : Nat → Nat} {cz : Nat → ClassId} {i : Nat → Nat → Int32} {g : Nat → Nat → Int64} (hR : Rg rF i)  : CtI l yX8_lost cX8_lost 4 (some .int) ({ frames := 1, cells := 0, slots := 0, locals := 20 } : Room) D h cz i g [.ref (h 0)] (fun r u => u = (i, g) ∧ r = (-2)) := by
  refine k_I pn_X8_lost (Nat.le_of_ble_eq_true rfl) ?_
  intro p e s m args below meth c ls Q X hret hT hl hS
  have hx := X.1
  have hb := X.2.1
  have hl : lv_has ls 4 [(0, .ref (h 0))] := hl
  refine lv_aload_n hx hb dX8_lost_0 rfl (lv_at hl 0 rfl) ?_
  refine r_getr X hT 0 3 15 fk_8_32 rfl rfl (by decide) dX8_lost_1 ?_
  refine r_Vi (As := []) (rest := []) X hT hS (k_X6_isTold_15 hR) mk_X6_isTold gm_698 rfl rfl (by decide) hd_X6_isTold ⟨rfl, rfl⟩ ⟨Nat.le_of_ble_eq_true rfl, Nat.le_of_ble_eq_true rfl⟩ hl.1 rfl (Nat.le_of_ble_eq_true rfl) dX8_lost_4 ⟨Nat.zero_le _, Nat.zero_le _⟩ (fun r1 i1 g1 H locs hq hT hS => ?_)
  obtain ⟨eh1, rfl⟩ := hq
  rw [(Prod.mk.inj eh1).1, (Prod.mk.inj eh1).2] at hT
  refine lv_if_ne (tgt := 13) hx hb dX8_lost_7 (by decide) (fun c2 => (x_ne (rg_k (by decide) : rg 0 0 0) (rg_k (by decide) : rg 0 0 0) (i_ne c2) (by decide)).elim) (fun c2 => ?_)
  refine lv_bipush (v := (-2)) hx hb dX8_lost_10 (by decide) ?_
  exact hret (-2) _ _ _ _ _ _ dX8_lost_12 hT hS ⟨rfl, rfl⟩

set_option maxRecDepth 100000 in
set_option maxHeartbeats 4000000 in
theorem k_X8_knives {l : Launch} {D : va_G} {h : Nat → Nat} {cz : Nat → ClassId} {i : Nat → Nat → Int32} {g : Nat → Nat → Int64} (hR : Rg rF i) (a_a : Int32) : CtI l yX8_knives cX8_knives 4 (some .int) ({ frames := 1, cells := 0, slots := 0, locals := 21 } : Room) D h cz i g [.ref (h 0), .int a_a] (fun r u => u = (i, g) ∧ r = (-2)) := by
  refine k_I pn_X8_knives (Nat.le_of_ble_eq_true rfl) ?_
  intro p e s m args below meth c ls Q X hret hT hl hS
  have hx := X.1
  have hb := X.2.1
  have hl : lv_has ls 4 [(0, .ref (h 0)), (1, .int a_a)] := hl
  refine lv_aload_n hx hb dX8_knives_0 rfl (lv_at hl 0 rfl) ?_
  refine r_getr X hT 0 3 15 fk_8_32 rfl rfl (by decide) dX8_knives_1 ?_
  refine lv_iload_n hx hb dX8_knives_4 rfl (lv_at hl 1 rfl) ?_
  refine r_Vi (As := [.int a_a]) (rest := []) X hT hS (k_X6_hasPart_15 hR a_a) mk_X6_hasPart gm_669 rfl rfl (by decide) hd_X6_hasPart ⟨rfl, rfl⟩ ⟨Nat.le_of_ble_eq_true rfl, Nat.le_of_ble_eq_true rfl⟩ hl.1 rfl (Nat.le_of_ble_eq_true rfl) dX8_knives_5 ⟨Nat.zero_le _, Nat.zero_le _⟩ (fun r1 i1 g1 H locs hq hT hS => ?_)
  obtain ⟨eh1, rfl⟩ := hq
  rw [(Prod.mk.inj eh1).1, (Prod.mk.inj eh1).2] at hT
  refine lv_if_ne (tgt := 14) hx hb dX8_knives_8 (by decide) (fun c2 => (x_ne (rg_k (by decide) : rg 0 0 0) (rg_k (by decide) : rg 0 0 0) (i_ne c2) (by decide)).elim) (fun c2 => ?_)
  refine lv_bipush (v := (-2)) hx hb dX8_knives_11 (by decide) ?_
  exact hret (-2) _ _ _ _ _ _ dX8_knives_13 hT hS ⟨rfl, rfl⟩

set_option maxRecDepth 100000 in
set_option maxHeartbeats 4000000 in
theorem k_X8_idle {l : Launch} {D : va_G} {h : Nat → Nat} {cz : Nat → ClassId} {i : Nat → Nat → Int32} {g : Nat → Nat → Int64} (hR : Rg rF i)  : CtI l yX8_idle cX8_idle 4 (some .int) ({ frames := 1, cells := 0, slots := 0, locals := 20 } : Room) D h cz i g [.ref (h 0)] (fun r u => u = (i, g) ∧ r = (-2)) := by
  refine k_I pn_X8_idle (Nat.le_of_ble_eq_true rfl) ?_
  intro p e s m args below meth c ls Q X hret hT hl hS
  have hx := X.1
  have hb := X.2.1
  have hl : lv_has ls 4 [(0, .ref (h 0))] := hl
  refine lv_aload_n hx hb dX8_idle_0 rfl (lv_at hl 0 rfl) ?_
  refine r_getr X hT 0 3 15 fk_8_32 rfl rfl (by decide) dX8_idle_1 ?_
  refine r_Vi (As := []) (rest := []) X hT hS (k_X6_isTold_15 hR) mk_X6_isTold gm_698 rfl rfl (by decide) hd_X6_isTold ⟨rfl, rfl⟩ ⟨Nat.le_of_ble_eq_true rfl, Nat.le_of_ble_eq_true rfl⟩ hl.1 rfl (Nat.le_of_ble_eq_true rfl) dX8_idle_4 ⟨Nat.zero_le _, Nat.zero_le _⟩ (fun r1 i1 g1 H locs hq hT hS => ?_)
  obtain ⟨eh1, rfl⟩ := hq
  rw [(Prod.mk.inj eh1).1, (Prod.mk.inj eh1).2] at hT
  refine lv_if_ne (tgt := 13) hx hb dX8_idle_7 (by decide) (fun c2 => (x_ne (rg_k (by decide) : rg 0 0 0) (rg_k (by decide) : rg 0 0 0) (i_ne c2) (by decide)).elim) (fun c2 => ?_)
  refine lv_bipush (v := (-2)) hx hb dX8_idle_10 (by decide) ?_
  exact hret (-2) _ _ _ _ _ _ dX8_idle_12 hT hS ⟨rfl, rfl⟩

set_option maxRecDepth 100000 in
set_option maxHeartbeats 4000000 in
theorem k_X8_few {l : Launch} {D : va_G} {h : Nat → Nat} {cz : Nat → ClassId} {i : Nat → Nat → Int32} {g : Nat → Nat → Int64} (hR : Rg rF i)  : CtI l yX8_few cX8_few 1 (some .int) ({ frames := 1, cells := 0, slots := 0, locals := 20 } : Room) D h cz i g [.ref (h 0)] (fun r u => u = (i, g) ∧ r = (-2)) := by
  refine k_I pn_X8_few (Nat.le_of_ble_eq_true rfl) ?_
  intro p e s m args below meth c ls Q X hret hT hl hS
  have hx := X.1
  have hb := X.2.1
  have hl : lv_has ls 1 [(0, .ref (h 0))] := hl
  refine lv_aload_n hx hb dX8_few_0 rfl (lv_at hl 0 rfl) ?_
  refine r_getr X hT 0 3 15 fk_8_32 rfl rfl (by decide) dX8_few_1 ?_
  refine r_Vi (As := []) (rest := []) X hT hS (k_X6_isTold_15 hR) mk_X6_isTold gm_698 rfl rfl (by decide) hd_X6_isTold ⟨rfl, rfl⟩ ⟨Nat.le_of_ble_eq_true rfl, Nat.le_of_ble_eq_true rfl⟩ hl.1 rfl (Nat.le_of_ble_eq_true rfl) dX8_few_4 ⟨Nat.zero_le _, Nat.zero_le _⟩ (fun r1 i1 g1 H locs hq hT hS => ?_)
  obtain ⟨eh1, rfl⟩ := hq
  rw [(Prod.mk.inj eh1).1, (Prod.mk.inj eh1).2] at hT
  refine lv_if_eq (tgt := 20) hx hb dX8_few_7 (by decide) (fun c2 => ?_) (fun c2 => (x_ne (rg_k (by decide) : rg 0 0 0) (rg_k (by decide) : rg 0 0 0) (i_ne c2) (by decide)).elim)
  refine lv_bipush (v := (-2)) hx hb dX8_few_20 (by decide) ?_
  exact hret (-2) _ _ _ _ _ _ dX8_few_22 hT hS ⟨rfl, rfl⟩

set_option maxRecDepth 100000 in
set_option maxHeartbeats 4000000 in
theorem k_X8_fews {l : Launch} {D : va_G} {h : Nat → Nat} {cz : Nat → ClassId} {i : Nat → Nat → Int32} {g : Nat → Nat → Int64} (hR : Rg rF i)  : CtI l yX8_fews cX8_fews 1 (some .int) ({ frames := 1, cells := 0, slots := 0, locals := 20 } : Room) D h cz i g [.ref (h 0)] (fun r u => u = (i, g) ∧ r = (-2)) := by
  refine k_I pn_X8_fews (Nat.le_of_ble_eq_true rfl) ?_
  intro p e s m args below meth c ls Q X hret hT hl hS
  have hx := X.1
  have hb := X.2.1
  have hl : lv_has ls 1 [(0, .ref (h 0))] := hl
  refine lv_aload_n hx hb dX8_fews_0 rfl (lv_at hl 0 rfl) ?_
  refine r_getr X hT 0 3 15 fk_8_32 rfl rfl (by decide) dX8_fews_1 ?_
  refine r_Vi (As := []) (rest := []) X hT hS (k_X6_isTold_15 hR) mk_X6_isTold gm_698 rfl rfl (by decide) hd_X6_isTold ⟨rfl, rfl⟩ ⟨Nat.le_of_ble_eq_true rfl, Nat.le_of_ble_eq_true rfl⟩ hl.1 rfl (Nat.le_of_ble_eq_true rfl) dX8_fews_4 ⟨Nat.zero_le _, Nat.zero_le _⟩ (fun r1 i1 g1 H locs hq hT hS => ?_)
  obtain ⟨eh1, rfl⟩ := hq
  rw [(Prod.mk.inj eh1).1, (Prod.mk.inj eh1).2] at hT
  refine lv_if_eq (tgt := 17) hx hb dX8_fews_7 (by decide) (fun c2 => ?_) (fun c2 => (x_ne (rg_k (by decide) : rg 0 0 0) (rg_k (by decide) : rg 0 0 0) (i_ne c2) (by decide)).elim)
  refine lv_bipush (v := (-2)) hx hb dX8_fews_17 (by decide) ?_
  exact hret (-2) _ _ _ _ _ _ dX8_fews_19 hT hS ⟨rfl, rfl⟩

set_option maxRecDepth 100000 in
set_option maxHeartbeats 4000000 in
theorem k_X8_worth {l : Launch} {D : va_G} {h : Nat → Nat} {cz : Nat → ClassId} {i : Nat → Nat → Int32} {g : Nat → Nat → Int64} (hR : Rg rF i) (a_a : Int32) : CtI l yX8_worth cX8_worth 2 (some .int) ({ frames := 1, cells := 0, slots := 0, locals := 20 } : Room) D h cz i g [.ref (h 0), .int a_a] (fun r u => u = (i, g) ∧ r = (-2)) := by
  refine k_I pn_X8_worth (Nat.le_of_ble_eq_true rfl) ?_
  intro p e s m args below meth c ls Q X hret hT hl hS
  have hx := X.1
  have hb := X.2.1
  have hl : lv_has ls 2 [(0, .ref (h 0)), (1, .int a_a)] := hl
  refine lv_aload_n hx hb dX8_worth_0 rfl (lv_at hl 0 rfl) ?_
  refine r_getr X hT 0 3 15 fk_8_32 rfl rfl (by decide) dX8_worth_1 ?_
  refine r_Vi (As := []) (rest := []) X hT hS (k_X6_isTold_15 hR) mk_X6_isTold gm_698 rfl rfl (by decide) hd_X6_isTold ⟨rfl, rfl⟩ ⟨Nat.le_of_ble_eq_true rfl, Nat.le_of_ble_eq_true rfl⟩ hl.1 rfl (Nat.le_of_ble_eq_true rfl) dX8_worth_4 ⟨Nat.zero_le _, Nat.zero_le _⟩ (fun r1 i1 g1 H locs hq hT hS => ?_)
  obtain ⟨eh1, rfl⟩ := hq
  rw [(Prod.mk.inj eh1).1, (Prod.mk.inj eh1).2] at hT
  refine lv_if_eq (tgt := 25) hx hb dX8_worth_7 (by decide) (fun c2 => ?_) (fun c2 => (x_ne (rg_k (by decide) : rg 0 0 0) (rg_k (by decide) : rg 0 0 0) (i_ne c2) (by decide)).elim)
  refine lv_bipush (v := (-2)) hx hb dX8_worth_25 (by decide) ?_
  exact hret (-2) _ _ _ _ _ _ dX8_worth_27 hT hS ⟨rfl, rfl⟩

set_option maxRecDepth 100000 in
set_option maxHeartbeats 4000000 in
theorem k_X8_share {l : Launch} {D : va_G} {h : Nat → Nat} {cz : Nat → ClassId} {i : Nat → Nat → Int32} {g : Nat → Nat → Int64} (hR : Rg rF i) (a_a : Int32) (a_b : Int32) : CtI l yX8_share cX8_share 9 (some .int) ({ frames := 1, cells := 0, slots := 0, locals := 21 } : Room) D h cz i g [.ref (h 0), .int a_a, .int a_b] (fun r u => u = (i, g) ∧ r = (-1000000)) := by
  refine k_I pn_X8_share (Nat.le_of_ble_eq_true rfl) ?_
  intro p e s m args below meth c ls Q X hret hT hl hS
  have hx := X.1
  have hb := X.2.1
  have hl : lv_has ls 9 [(0, .ref (h 0)), (1, .int a_a), (2, .int a_b)] := hl
  refine lv_aload_n hx hb dX8_share_0 rfl (lv_at hl 0 rfl) ?_
  refine r_getr X hT 0 3 15 fk_8_32 rfl rfl (by decide) dX8_share_1 ?_
  refine lv_iload_n hx hb dX8_share_4 rfl (lv_at hl 1 rfl) ?_
  refine r_Vi (As := [.int a_a]) (rest := []) X hT hS (k_X6_hasPart_15 hR a_a) mk_X6_hasPart gm_669 rfl rfl (by decide) hd_X6_hasPart ⟨rfl, rfl⟩ ⟨Nat.le_of_ble_eq_true rfl, Nat.le_of_ble_eq_true rfl⟩ hl.1 rfl (Nat.le_of_ble_eq_true rfl) dX8_share_5 ⟨Nat.zero_le _, Nat.zero_le _⟩ (fun r1 i1 g1 H locs hq hT hS => ?_)
  obtain ⟨eh1, rfl⟩ := hq
  rw [(Prod.mk.inj eh1).1, (Prod.mk.inj eh1).2] at hT
  refine lv_if_eq (tgt := 18) hx hb dX8_share_8 (by decide) (fun c2 => ?_) (fun c2 => (x_ne (rg_k (by decide) : rg 0 0 0) (rg_k (by decide) : rg 0 0 0) (i_ne c2) (by decide)).elim)
  refine lv_ldcw (v := (-1000000)) hx hb X.2.2.2.1 (X.2.2.2.2.1 _ gm_986) dX8_share_18 ?_
  exact hret (-1000000) _ _ _ _ _ _ dX8_share_21 hT hS ⟨rfl, rfl⟩

set_option maxRecDepth 100000 in
set_option maxHeartbeats 4000000 in
theorem k_X8_hasPlan {l : Launch} {D : va_G} {h : Nat → Nat} {cz : Nat → ClassId} {i : Nat → Nat → Int32} {g : Nat → Nat → Int64} (hR : Rg rF i) (a_a : Int32) : CtI l yX8_hasPlan cX8_hasPlan 2 (some .boolean) ({ frames := 1, cells := 0, slots := 0, locals := 20 } : Room) D h cz i g [.ref (h 0), .int a_a] (fun r u => u = (i, g) ∧ r = 0) := by
  refine k_Z (by intro v u hq; obtain ⟨-, hq⟩ := hq; exact Or.inl hq) pn_X8_hasPlan (Nat.le_of_ble_eq_true rfl) ?_
  intro p e s m args below meth c ls Q X hret hT hl hS
  have hx := X.1
  have hb := X.2.1
  have hl : lv_has ls 2 [(0, .ref (h 0)), (1, .int a_a)] := hl
  refine lv_aload_n hx hb dX8_hasPlan_0 rfl (lv_at hl 0 rfl) ?_
  refine r_getr X hT 0 3 15 fk_8_32 rfl rfl (by decide) dX8_hasPlan_1 ?_
  refine r_Vi (As := []) (rest := []) X hT hS (k_X6_isTold_15 hR) mk_X6_isTold gm_698 rfl rfl (by decide) hd_X6_isTold ⟨rfl, rfl⟩ ⟨Nat.le_of_ble_eq_true rfl, Nat.le_of_ble_eq_true rfl⟩ hl.1 rfl (Nat.le_of_ble_eq_true rfl) dX8_hasPlan_4 ⟨Nat.zero_le _, Nat.zero_le _⟩ (fun r1 i1 g1 H locs hq hT hS => ?_)
  obtain ⟨eh1, rfl⟩ := hq
  rw [(Prod.mk.inj eh1).1, (Prod.mk.inj eh1).2] at hT
  refine lv_if_eq (tgt := 35) hx hb dX8_hasPlan_7 (by decide) (fun c2 => ?_) (fun c2 => (x_ne (rg_k (by decide) : rg 0 0 0) (rg_k (by decide) : rg 0 0 0) (i_ne c2) (by decide)).elim)
  refine lv_iconst (v := 0) hx hb dX8_hasPlan_35 (by decide) ?_
  exact hret 0 _ _ _ _ _ _ dX8_hasPlan_36 hT hS ⟨rfl, rfl⟩

set_option maxRecDepth 100000 in
set_option maxHeartbeats 4000000 in
theorem k_X8_plan {l : Launch} {D : va_G} {h : Nat → Nat} {cz : Nat → ClassId} {i : Nat → Nat → Int32} {g : Nat → Nat → Int64} (hR : Rg rF i) (a_a : Int32) : CtI l yX8_plan cX8_plan 2 (some .int) ({ frames := 2, cells := 0, slots := 0, locals := 41 } : Room) D h cz i g [.ref (h 0), .int a_a] (fun r u => u = (i, g) ∧ r = (-2)) := by
  refine k_I pn_X8_plan (Nat.le_of_ble_eq_true rfl) ?_
  intro p e s m args below meth c ls Q X hret hT hl hS
  have hx := X.1
  have hb := X.2.1
  have hl : lv_has ls 2 [(0, .ref (h 0)), (1, .int a_a)] := hl
  refine lv_aload_n hx hb dX8_plan_0 rfl (lv_at hl 0 rfl) ?_
  refine lv_iload_n hx hb dX8_plan_1 rfl (lv_at hl 1 rfl) ?_
  refine r_Vi (As := [.int a_a]) (rest := []) X hT hS (k_X8_hasPlan hR a_a) mk_X8_hasPlan gm_1008 rfl rfl (by decide) hd_X8_hasPlan ⟨rfl, rfl⟩ ⟨Nat.le_of_ble_eq_true rfl, Nat.le_of_ble_eq_true rfl⟩ hl.1 rfl (Nat.le_of_ble_eq_true rfl) dX8_plan_2 ⟨Nat.zero_le _, Nat.zero_le _⟩ (fun r1 i1 g1 H locs hq hT hS => ?_)
  obtain ⟨eh1, rfl⟩ := hq
  rw [(Prod.mk.inj eh1).1, (Prod.mk.inj eh1).2] at hT
  refine lv_if_ne (tgt := 11) hx hb dX8_plan_5 (by decide) (fun c2 => (x_ne (rg_k (by decide) : rg 0 0 0) (rg_k (by decide) : rg 0 0 0) (i_ne c2) (by decide)).elim) (fun c2 => ?_)
  refine lv_bipush (v := (-2)) hx hb dX8_plan_8 (by decide) ?_
  exact hret (-2) _ _ _ _ _ _ dX8_plan_10 hT hS ⟨rfl, rfl⟩

set_option maxRecDepth 100000 in
set_option maxHeartbeats 4000000 in
theorem k_X8_planned {l : Launch} {D : va_G} {h : Nat → Nat} {cz : Nat → ClassId} {i : Nat → Nat → Int32} {g : Nat → Nat → Int64} (hR : Rg rF i) (a_a : Int32) (a_b : Int32) : CtI l yX8_planned cX8_planned 3 (some .int) ({ frames := 2, cells := 0, slots := 0, locals := 41 } : Room) D h cz i g [.ref (h 0), .int a_a, .int a_b] (fun r u => u = (i, g) ∧ r = (-2)) := by
  refine k_I pn_X8_planned (Nat.le_of_ble_eq_true rfl) ?_
  intro p e s m args below meth c ls Q X hret hT hl hS
  have hx := X.1
  have hb := X.2.1
  have hl : lv_has ls 3 [(0, .ref (h 0)), (1, .int a_a), (2, .int a_b)] := hl
  refine lv_aload_n hx hb dX8_planned_0 rfl (lv_at hl 0 rfl) ?_
  refine lv_iload_n hx hb dX8_planned_1 rfl (lv_at hl 1 rfl) ?_
  refine r_Vi (As := [.int a_a]) (rest := []) X hT hS (k_X8_hasPlan hR a_a) mk_X8_hasPlan gm_1008 rfl rfl (by decide) hd_X8_hasPlan ⟨rfl, rfl⟩ ⟨Nat.le_of_ble_eq_true rfl, Nat.le_of_ble_eq_true rfl⟩ hl.1 rfl (Nat.le_of_ble_eq_true rfl) dX8_planned_2 ⟨Nat.zero_le _, Nat.zero_le _⟩ (fun r1 i1 g1 H locs hq hT hS => ?_)
  obtain ⟨eh1, rfl⟩ := hq
  rw [(Prod.mk.inj eh1).1, (Prod.mk.inj eh1).2] at hT
  refine lv_if_eq (tgt := 17) hx hb dX8_planned_5 (by decide) (fun c2 => ?_) (fun c2 => (x_ne (rg_k (by decide) : rg 0 0 0) (rg_k (by decide) : rg 0 0 0) (i_ne c2) (by decide)).elim)
  refine lv_bipush (v := (-2)) hx hb dX8_planned_17 (by decide) ?_
  exact hret (-2) _ _ _ _ _ _ dX8_planned_19 hT hS ⟨rfl, rfl⟩

set_option maxRecDepth 100000 in
set_option maxHeartbeats 4000000 in
theorem k_X8_plans {l : Launch} {D : va_G} {h : Nat → Nat} {cz : Nat → ClassId} {i : Nat → Nat → Int32} {g : Nat → Nat → Int64} (hR : Rg rF i) (a_a : Int32) : CtI l yX8_plans cX8_plans 2 (some .int) ({ frames := 2, cells := 0, slots := 0, locals := 41 } : Room) D h cz i g [.ref (h 0), .int a_a] (fun r u => u = (i, g) ∧ r = (-2)) := by
  refine k_I pn_X8_plans (Nat.le_of_ble_eq_true rfl) ?_
  intro p e s m args below meth c ls Q X hret hT hl hS
  have hx := X.1
  have hb := X.2.1
  have hl : lv_has ls 2 [(0, .ref (h 0)), (1, .int a_a)] := hl
  refine lv_aload_n hx hb dX8_plans_0 rfl (lv_at hl 0 rfl) ?_
  refine lv_iload_n hx hb dX8_plans_1 rfl (lv_at hl 1 rfl) ?_
  refine r_Vi (As := [.int a_a]) (rest := []) X hT hS (k_X8_hasPlan hR a_a) mk_X8_hasPlan gm_1008 rfl rfl (by decide) hd_X8_hasPlan ⟨rfl, rfl⟩ ⟨Nat.le_of_ble_eq_true rfl, Nat.le_of_ble_eq_true rfl⟩ hl.1 rfl (Nat.le_of_ble_eq_true rfl) dX8_plans_2 ⟨Nat.zero_le _, Nat.zero_le _⟩ (fun r1 i1 g1 H locs hq hT hS => ?_)
  obtain ⟨eh1, rfl⟩ := hq
  rw [(Prod.mk.inj eh1).1, (Prod.mk.inj eh1).2] at hT
  refine lv_if_ne (tgt := 11) hx hb dX8_plans_5 (by decide) (fun c2 => (x_ne (rg_k (by decide) : rg 0 0 0) (rg_k (by decide) : rg 0 0 0) (i_ne c2) (by decide)).elim) (fun c2 => ?_)
  refine lv_bipush (v := (-2)) hx hb dX8_plans_8 (by decide) ?_
  exact hret (-2) _ _ _ _ _ _ dX8_plans_10 hT hS ⟨rfl, rfl⟩

set_option maxRecDepth 100000 in
set_option maxHeartbeats 4000000 in
theorem k_X8_refuseSeenOf {l : Launch} {D : va_G} {h : Nat → Nat} {cz : Nat → ClassId} {i : Nat → Nat → Int32} {g : Nat → Nat → Int64} (hR : Rg rF i) (a_a : Int32) (a_b : Int32) : CtI l yX8_refuseSeenOf cX8_refuseSeenOf 3 (some .int) ({ frames := 1, cells := 0, slots := 0, locals := 21 } : Room) D h cz i g [.ref (h 0), .int a_a, .int a_b] (fun r u => u = (i, g) ∧ r = (-2)) := by
  refine k_I pn_X8_refuseSeenOf (Nat.le_of_ble_eq_true rfl) ?_
  intro p e s m args below meth c ls Q X hret hT hl hS
  have hx := X.1
  have hb := X.2.1
  have hl : lv_has ls 3 [(0, .ref (h 0)), (1, .int a_a), (2, .int a_b)] := hl
  refine lv_aload_n hx hb dX8_refuseSeenOf_0 rfl (lv_at hl 0 rfl) ?_
  refine r_getr X hT 0 3 15 fk_8_32 rfl rfl (by decide) dX8_refuseSeenOf_1 ?_
  refine lv_iload_n hx hb dX8_refuseSeenOf_4 rfl (lv_at hl 2 rfl) ?_
  refine r_Vi (As := [.int a_b]) (rest := []) X hT hS (k_X6_hasPart_15 hR a_b) mk_X6_hasPart gm_669 rfl rfl (by decide) hd_X6_hasPart ⟨rfl, rfl⟩ ⟨Nat.le_of_ble_eq_true rfl, Nat.le_of_ble_eq_true rfl⟩ hl.1 rfl (Nat.le_of_ble_eq_true rfl) dX8_refuseSeenOf_5 ⟨Nat.zero_le _, Nat.zero_le _⟩ (fun r1 i1 g1 H locs hq hT hS => ?_)
  obtain ⟨eh1, rfl⟩ := hq
  rw [(Prod.mk.inj eh1).1, (Prod.mk.inj eh1).2] at hT
  refine lv_if_eq (tgt := 19) hx hb dX8_refuseSeenOf_8 (by decide) (fun c2 => ?_) (fun c2 => (x_ne (rg_k (by decide) : rg 0 0 0) (rg_k (by decide) : rg 0 0 0) (i_ne c2) (by decide)).elim)
  refine lv_bipush (v := (-2)) hx hb dX8_refuseSeenOf_19 (by decide) ?_
  exact hret (-2) _ _ _ _ _ _ dX8_refuseSeenOf_21 hT hS ⟨rfl, rfl⟩

set_option maxRecDepth 100000 in
set_option maxHeartbeats 4000000 in
theorem k_X8_stiffs {l : Launch} {D : va_G} {h : Nat → Nat} {cz : Nat → ClassId} {i : Nat → Nat → Int32} {g : Nat → Nat → Int64} (hR : Rg rF i) (a_a : Int32) (a_b : Int32) : CtI l yX8_stiffs cX8_stiffs 4 (some .int) ({ frames := 2, cells := 0, slots := 0, locals := 43 } : Room) D h cz i g [.ref (h 0), .int a_a, .int a_b] (fun r u => u = (i, g) ∧ r = (-2)) := by
  refine k_I pn_X8_stiffs (Nat.le_of_ble_eq_true rfl) ?_
  intro p e s m args below meth c ls Q X hret hT hl hS
  have hx := X.1
  have hb := X.2.1
  have hl : lv_has ls 4 [(0, .ref (h 0)), (1, .int a_a), (2, .int a_b)] := hl
  refine lv_aload_n hx hb dX8_stiffs_0 rfl (lv_at hl 0 rfl) ?_
  refine lv_iload_n hx hb dX8_stiffs_1 rfl (lv_at hl 1 rfl) ?_
  refine lv_iload_n hx hb dX8_stiffs_2 rfl (lv_at hl 2 rfl) ?_
  refine r_Vi (As := [.int a_a, .int a_b]) (rest := []) X hT hS (k_X8_refuseSeenOf hR a_a a_b) mk_X8_refuseSeenOf gm_1048 rfl rfl (by decide) hd_X8_refuseSeenOf ⟨rfl, rfl⟩ ⟨Nat.le_of_ble_eq_true rfl, Nat.le_of_ble_eq_true rfl⟩ hl.1 rfl (Nat.le_of_ble_eq_true rfl) dX8_stiffs_3 ⟨Nat.zero_le _, Nat.zero_le _⟩ (fun r1 i1 g1 H locs hq hT hS => ?_)
  obtain ⟨eh1, rfl⟩ := hq
  rw [(Prod.mk.inj eh1).1, (Prod.mk.inj eh1).2] at hT
  refine lv_istore_n (lv' := [(3, .int (-2)), (0, .ref (h 0)), (1, .int a_a), (2, .int a_b)]) hx hb dX8_stiffs_6 rfl hl (by decide) rfl (fun ls hl => ?_)
  refine lv_iload_n hx hb dX8_stiffs_7 rfl (lv_at hl 0 rfl) ?_
  refine lv_if_ne (tgt := 27) hx hb dX8_stiffs_8 (by decide) (fun c2 => ?_) (fun c2 => (x_eq (rg_k (by decide) : rg (-2) (-2) (-2)) (rg_k (by decide) : rg 0 0 0) (i_eq c2) (by decide)).elim)
  refine lv_iload_n hx hb dX8_stiffs_27 rfl (lv_at hl 0 rfl) ?_
  exact hret (-2) _ _ _ _ _ _ dX8_stiffs_28 hT hS ⟨rfl, rfl⟩

set_option maxRecDepth 100000 in
set_option maxHeartbeats 4000000 in
theorem k_X8_low {l : Launch} {D : va_G} {h : Nat → Nat} {cz : Nat → ClassId} {i : Nat → Nat → Int32} {g : Nat → Nat → Int64} (hR : Rg rF i) (a_a : Int32) (a_b : Int32) : CtI l yX8_low cX8_low 4 (some .int) ({ frames := 2, cells := 0, slots := 0, locals := 43 } : Room) D h cz i g [.ref (h 0), .int a_a, .int a_b] (fun r u => u = (i, g) ∧ r = (-2)) := by
  refine k_I pn_X8_low (Nat.le_of_ble_eq_true rfl) ?_
  intro p e s m args below meth c ls Q X hret hT hl hS
  have hx := X.1
  have hb := X.2.1
  have hl : lv_has ls 4 [(0, .ref (h 0)), (1, .int a_a), (2, .int a_b)] := hl
  refine lv_aload_n hx hb dX8_low_0 rfl (lv_at hl 0 rfl) ?_
  refine lv_iload_n hx hb dX8_low_1 rfl (lv_at hl 1 rfl) ?_
  refine lv_iload_n hx hb dX8_low_2 rfl (lv_at hl 2 rfl) ?_
  refine r_Vi (As := [.int a_a, .int a_b]) (rest := []) X hT hS (k_X8_refuseSeenOf hR a_a a_b) mk_X8_refuseSeenOf gm_1048 rfl rfl (by decide) hd_X8_refuseSeenOf ⟨rfl, rfl⟩ ⟨Nat.le_of_ble_eq_true rfl, Nat.le_of_ble_eq_true rfl⟩ hl.1 rfl (Nat.le_of_ble_eq_true rfl) dX8_low_3 ⟨Nat.zero_le _, Nat.zero_le _⟩ (fun r1 i1 g1 H locs hq hT hS => ?_)
  obtain ⟨eh1, rfl⟩ := hq
  rw [(Prod.mk.inj eh1).1, (Prod.mk.inj eh1).2] at hT
  refine lv_istore_n (lv' := [(3, .int (-2)), (0, .ref (h 0)), (1, .int a_a), (2, .int a_b)]) hx hb dX8_low_6 rfl hl (by decide) rfl (fun ls hl => ?_)
  refine lv_iload_n hx hb dX8_low_7 rfl (lv_at hl 0 rfl) ?_
  refine lv_if_eq (tgt := 13) hx hb dX8_low_8 (by decide) (fun c2 => (x_eq (rg_k (by decide) : rg (-2) (-2) (-2)) (rg_k (by decide) : rg 0 0 0) (i_eq c2) (by decide)).elim) (fun c2 => ?_)
  refine lv_iload_n hx hb dX8_low_11 rfl (lv_at hl 0 rfl) ?_
  exact hret (-2) _ _ _ _ _ _ dX8_low_12 hT hS ⟨rfl, rfl⟩

set_option maxRecDepth 100000 in
set_option maxHeartbeats 4000000 in
theorem k_X8_high {l : Launch} {D : va_G} {h : Nat → Nat} {cz : Nat → ClassId} {i : Nat → Nat → Int32} {g : Nat → Nat → Int64} (hR : Rg rF i) (a_a : Int32) (a_b : Int32) : CtI l yX8_high cX8_high 4 (some .int) ({ frames := 2, cells := 0, slots := 0, locals := 43 } : Room) D h cz i g [.ref (h 0), .int a_a, .int a_b] (fun r u => u = (i, g) ∧ r = (-2)) := by
  refine k_I pn_X8_high (Nat.le_of_ble_eq_true rfl) ?_
  intro p e s m args below meth c ls Q X hret hT hl hS
  have hx := X.1
  have hb := X.2.1
  have hl : lv_has ls 4 [(0, .ref (h 0)), (1, .int a_a), (2, .int a_b)] := hl
  refine lv_aload_n hx hb dX8_high_0 rfl (lv_at hl 0 rfl) ?_
  refine lv_iload_n hx hb dX8_high_1 rfl (lv_at hl 1 rfl) ?_
  refine lv_iload_n hx hb dX8_high_2 rfl (lv_at hl 2 rfl) ?_
  refine r_Vi (As := [.int a_a, .int a_b]) (rest := []) X hT hS (k_X8_refuseSeenOf hR a_a a_b) mk_X8_refuseSeenOf gm_1048 rfl rfl (by decide) hd_X8_refuseSeenOf ⟨rfl, rfl⟩ ⟨Nat.le_of_ble_eq_true rfl, Nat.le_of_ble_eq_true rfl⟩ hl.1 rfl (Nat.le_of_ble_eq_true rfl) dX8_high_3 ⟨Nat.zero_le _, Nat.zero_le _⟩ (fun r1 i1 g1 H locs hq hT hS => ?_)
  obtain ⟨eh1, rfl⟩ := hq
  rw [(Prod.mk.inj eh1).1, (Prod.mk.inj eh1).2] at hT
  refine lv_istore_n (lv' := [(3, .int (-2)), (0, .ref (h 0)), (1, .int a_a), (2, .int a_b)]) hx hb dX8_high_6 rfl hl (by decide) rfl (fun ls hl => ?_)
  refine lv_iload_n hx hb dX8_high_7 rfl (lv_at hl 0 rfl) ?_
  refine lv_if_eq (tgt := 13) hx hb dX8_high_8 (by decide) (fun c2 => (x_eq (rg_k (by decide) : rg (-2) (-2) (-2)) (rg_k (by decide) : rg 0 0 0) (i_eq c2) (by decide)).elim) (fun c2 => ?_)
  refine lv_iload_n hx hb dX8_high_11 rfl (lv_at hl 0 rfl) ?_
  exact hret (-2) _ _ _ _ _ _ dX8_high_12 hT hS ⟨rfl, rfl⟩

set_option maxRecDepth 100000 in
set_option maxHeartbeats 4000000 in
theorem k_X8_ask {l : Launch} {D : va_G} {h : Nat → Nat} {cz : Nat → ClassId} {i : Nat → Nat → Int32} {g : Nat → Nat → Int64} (hR : Rg rF i) (a_a : Int32) (a_b : Int32) : CtI l yX8_ask cX8_ask 4 (some .int) ({ frames := 2, cells := 0, slots := 0, locals := 43 } : Room) D h cz i g [.ref (h 0), .int a_a, .int a_b] (fun r u => u = (i, g) ∧ r = (-2)) := by
  refine k_I pn_X8_ask (Nat.le_of_ble_eq_true rfl) ?_
  intro p e s m args below meth c ls Q X hret hT hl hS
  have hx := X.1
  have hb := X.2.1
  have hl : lv_has ls 4 [(0, .ref (h 0)), (1, .int a_a), (2, .int a_b)] := hl
  refine lv_aload_n hx hb dX8_ask_0 rfl (lv_at hl 0 rfl) ?_
  refine lv_iload_n hx hb dX8_ask_1 rfl (lv_at hl 1 rfl) ?_
  refine lv_iload_n hx hb dX8_ask_2 rfl (lv_at hl 2 rfl) ?_
  refine r_Vi (As := [.int a_a, .int a_b]) (rest := []) X hT hS (k_X8_refuseSeenOf hR a_a a_b) mk_X8_refuseSeenOf gm_1048 rfl rfl (by decide) hd_X8_refuseSeenOf ⟨rfl, rfl⟩ ⟨Nat.le_of_ble_eq_true rfl, Nat.le_of_ble_eq_true rfl⟩ hl.1 rfl (Nat.le_of_ble_eq_true rfl) dX8_ask_3 ⟨Nat.zero_le _, Nat.zero_le _⟩ (fun r1 i1 g1 H locs hq hT hS => ?_)
  obtain ⟨eh1, rfl⟩ := hq
  rw [(Prod.mk.inj eh1).1, (Prod.mk.inj eh1).2] at hT
  refine lv_istore_n (lv' := [(3, .int (-2)), (0, .ref (h 0)), (1, .int a_a), (2, .int a_b)]) hx hb dX8_ask_6 rfl hl (by decide) rfl (fun ls hl => ?_)
  refine lv_iload_n hx hb dX8_ask_7 rfl (lv_at hl 0 rfl) ?_
  refine lv_if_eq (tgt := 13) hx hb dX8_ask_8 (by decide) (fun c2 => (x_eq (rg_k (by decide) : rg (-2) (-2) (-2)) (rg_k (by decide) : rg 0 0 0) (i_eq c2) (by decide)).elim) (fun c2 => ?_)
  refine lv_iload_n hx hb dX8_ask_11 rfl (lv_at hl 0 rfl) ?_
  exact hret (-2) _ _ _ _ _ _ dX8_ask_12 hT hS ⟨rfl, rfl⟩

set_option maxRecDepth 100000 in
set_option maxHeartbeats 4000000 in
theorem k_X8_leaves {l : Launch} {D : va_G} {h : Nat → Nat} {cz : Nat → ClassId} {i : Nat → Nat → Int32} {g : Nat → Nat → Int64} (hR : Rg rF i) (a_a : Int32) (a_b : Int32) : CtI l yX8_leaves cX8_leaves 4 (some .int) ({ frames := 2, cells := 0, slots := 0, locals := 43 } : Room) D h cz i g [.ref (h 0), .int a_a, .int a_b] (fun r u => u = (i, g) ∧ r = (-2)) := by
  refine k_I pn_X8_leaves (Nat.le_of_ble_eq_true rfl) ?_
  intro p e s m args below meth c ls Q X hret hT hl hS
  have hx := X.1
  have hb := X.2.1
  have hl : lv_has ls 4 [(0, .ref (h 0)), (1, .int a_a), (2, .int a_b)] := hl
  refine lv_aload_n hx hb dX8_leaves_0 rfl (lv_at hl 0 rfl) ?_
  refine lv_iload_n hx hb dX8_leaves_1 rfl (lv_at hl 1 rfl) ?_
  refine lv_iload_n hx hb dX8_leaves_2 rfl (lv_at hl 2 rfl) ?_
  refine r_Vi (As := [.int a_a, .int a_b]) (rest := []) X hT hS (k_X8_refuseSeenOf hR a_a a_b) mk_X8_refuseSeenOf gm_1048 rfl rfl (by decide) hd_X8_refuseSeenOf ⟨rfl, rfl⟩ ⟨Nat.le_of_ble_eq_true rfl, Nat.le_of_ble_eq_true rfl⟩ hl.1 rfl (Nat.le_of_ble_eq_true rfl) dX8_leaves_3 ⟨Nat.zero_le _, Nat.zero_le _⟩ (fun r1 i1 g1 H locs hq hT hS => ?_)
  obtain ⟨eh1, rfl⟩ := hq
  rw [(Prod.mk.inj eh1).1, (Prod.mk.inj eh1).2] at hT
  refine lv_istore_n (lv' := [(3, .int (-2)), (0, .ref (h 0)), (1, .int a_a), (2, .int a_b)]) hx hb dX8_leaves_6 rfl hl (by decide) rfl (fun ls hl => ?_)
  refine lv_iload_n hx hb dX8_leaves_7 rfl (lv_at hl 0 rfl) ?_
  refine lv_if_eq (tgt := 13) hx hb dX8_leaves_8 (by decide) (fun c2 => (x_eq (rg_k (by decide) : rg (-2) (-2) (-2)) (rg_k (by decide) : rg 0 0 0) (i_eq c2) (by decide)).elim) (fun c2 => ?_)
  refine lv_iload_n hx hb dX8_leaves_11 rfl (lv_at hl 0 rfl) ?_
  exact hret (-2) _ _ _ _ _ _ dX8_leaves_12 hT hS ⟨rfl, rfl⟩

set_option maxRecDepth 100000 in
set_option maxHeartbeats 4000000 in
theorem k_X8_laws {l : Launch} {D : va_G} {h : Nat → Nat} {cz : Nat → ClassId} {i : Nat → Nat → Int32} {g : Nat → Nat → Int64} (hR : Rg rF i) (a_a : Int32) : CtI l yX8_laws cX8_laws 5 (some .int) ({ frames := 1, cells := 0, slots := 0, locals := 20 } : Room) D h cz i g [.ref (h 0), .int a_a] (fun r u => u = (i, g) ∧ r = (-2)) := by
  refine k_I pn_X8_laws (Nat.le_of_ble_eq_true rfl) ?_
  intro p e s m args below meth c ls Q X hret hT hl hS
  have hx := X.1
  have hb := X.2.1
  have hl : lv_has ls 5 [(0, .ref (h 0)), (1, .int a_a)] := hl
  refine lv_aload_n hx hb dX8_laws_0 rfl (lv_at hl 0 rfl) ?_
  refine r_getr X hT 0 3 15 fk_8_32 rfl rfl (by decide) dX8_laws_1 ?_
  refine r_Vi (As := []) (rest := []) X hT hS (k_X6_isTold_15 hR) mk_X6_isTold gm_698 rfl rfl (by decide) hd_X6_isTold ⟨rfl, rfl⟩ ⟨Nat.le_of_ble_eq_true rfl, Nat.le_of_ble_eq_true rfl⟩ hl.1 rfl (Nat.le_of_ble_eq_true rfl) dX8_laws_4 ⟨Nat.zero_le _, Nat.zero_le _⟩ (fun r1 i1 g1 H locs hq hT hS => ?_)
  obtain ⟨eh1, rfl⟩ := hq
  rw [(Prod.mk.inj eh1).1, (Prod.mk.inj eh1).2] at hT
  refine lv_if_eq (tgt := 18) hx hb dX8_laws_7 (by decide) (fun c2 => ?_) (fun c2 => (x_ne (rg_k (by decide) : rg 0 0 0) (rg_k (by decide) : rg 0 0 0) (i_ne c2) (by decide)).elim)
  refine lv_bipush (v := (-2)) hx hb dX8_laws_18 (by decide) ?_
  refine lv_istore_n (lv' := [(2, .int (-2)), (0, .ref (h 0)), (1, .int a_a)]) hx hb dX8_laws_20 rfl hl (by decide) rfl (fun ls hl => ?_)
  refine lv_iload_n hx hb dX8_laws_21 rfl (lv_at hl 0 rfl) ?_
  refine lv_if_eq (tgt := 27) hx hb dX8_laws_22 (by decide) (fun c3 => (x_eq (rg_k (by decide) : rg (-2) (-2) (-2)) (rg_k (by decide) : rg 0 0 0) (i_eq c3) (by decide)).elim) (fun c3 => ?_)
  refine lv_iload_n hx hb dX8_laws_25 rfl (lv_at hl 0 rfl) ?_
  exact hret (-2) _ _ _ _ _ _ dX8_laws_26 hT hS ⟨rfl, rfl⟩

set_option maxRecDepth 100000 in
set_option maxHeartbeats 4000000 in
theorem k_X8_by {l : Launch} {D : va_G} {h : Nat → Nat} {cz : Nat → ClassId} {i : Nat → Nat → Int32} {g : Nat → Nat → Int64} (hR : Rg rF i) (a_a : Int32) : CtI l yX8_by cX8_by 2 (some .int) ({ frames := 1, cells := 0, slots := 0, locals := 20 } : Room) D h cz i g [.ref (h 0), .int a_a] (fun r u => u = (i, g) ∧ r = (-2)) := by
  refine k_I pn_X8_by (Nat.le_of_ble_eq_true rfl) ?_
  intro p e s m args below meth c ls Q X hret hT hl hS
  have hx := X.1
  have hb := X.2.1
  have hl : lv_has ls 2 [(0, .ref (h 0)), (1, .int a_a)] := hl
  refine lv_aload_n hx hb dX8_by_0 rfl (lv_at hl 0 rfl) ?_
  refine r_getr X hT 0 3 15 fk_8_32 rfl rfl (by decide) dX8_by_1 ?_
  refine r_Vi (As := []) (rest := []) X hT hS (k_X6_isTold_15 hR) mk_X6_isTold gm_698 rfl rfl (by decide) hd_X6_isTold ⟨rfl, rfl⟩ ⟨Nat.le_of_ble_eq_true rfl, Nat.le_of_ble_eq_true rfl⟩ hl.1 rfl (Nat.le_of_ble_eq_true rfl) dX8_by_4 ⟨Nat.zero_le _, Nat.zero_le _⟩ (fun r1 i1 g1 H locs hq hT hS => ?_)
  obtain ⟨eh1, rfl⟩ := hq
  rw [(Prod.mk.inj eh1).1, (Prod.mk.inj eh1).2] at hT
  refine lv_if_eq (tgt := 27) hx hb dX8_by_7 (by decide) (fun c2 => ?_) (fun c2 => (x_ne (rg_k (by decide) : rg 0 0 0) (rg_k (by decide) : rg 0 0 0) (i_ne c2) (by decide)).elim)
  refine lv_bipush (v := (-2)) hx hb dX8_by_27 (by decide) ?_
  exact hret (-2) _ _ _ _ _ _ dX8_by_29 hT hS ⟨rfl, rfl⟩

set_option maxRecDepth 100000 in
set_option maxHeartbeats 4000000 in
theorem k_X8_law {l : Launch} {D : va_G} {h : Nat → Nat} {cz : Nat → ClassId} {i : Nat → Nat → Int32} {g : Nat → Nat → Int64} (hR : Rg rF i)  : CtI l yX8_law cX8_law 5 (some .int) ({ frames := 1, cells := 0, slots := 0, locals := 20 } : Room) D h cz i g [.ref (h 0)] (fun r u => u = (i, g) ∧ r = (-2)) := by
  refine k_I pn_X8_law (Nat.le_of_ble_eq_true rfl) ?_
  intro p e s m args below meth c ls Q X hret hT hl hS
  have hx := X.1
  have hb := X.2.1
  have hl : lv_has ls 5 [(0, .ref (h 0))] := hl
  refine lv_aload_n hx hb dX8_law_0 rfl (lv_at hl 0 rfl) ?_
  refine r_getr X hT 0 3 15 fk_8_32 rfl rfl (by decide) dX8_law_1 ?_
  refine r_Vi (As := []) (rest := []) X hT hS (k_X6_isTold_15 hR) mk_X6_isTold gm_698 rfl rfl (by decide) hd_X6_isTold ⟨rfl, rfl⟩ ⟨Nat.le_of_ble_eq_true rfl, Nat.le_of_ble_eq_true rfl⟩ hl.1 rfl (Nat.le_of_ble_eq_true rfl) dX8_law_4 ⟨Nat.zero_le _, Nat.zero_le _⟩ (fun r1 i1 g1 H locs hq hT hS => ?_)
  obtain ⟨eh1, rfl⟩ := hq
  rw [(Prod.mk.inj eh1).1, (Prod.mk.inj eh1).2] at hT
  refine lv_if_ne (tgt := 13) hx hb dX8_law_7 (by decide) (fun c2 => (x_ne (rg_k (by decide) : rg 0 0 0) (rg_k (by decide) : rg 0 0 0) (i_ne c2) (by decide)).elim) (fun c2 => ?_)
  refine lv_bipush (v := (-2)) hx hb dX8_law_10 (by decide) ?_
  exact hret (-2) _ _ _ _ _ _ dX8_law_12 hT hS ⟨rfl, rfl⟩

set_option maxRecDepth 100000 in
set_option maxHeartbeats 4000000 in
theorem k_X8_blunt {l : Launch} {D : va_G} {h : Nat → Nat} {cz : Nat → ClassId} {i : Nat → Nat → Int32} {g : Nat → Nat → Int64} (hR : Rg rF i)  : CtI l yX8_blunt cX8_blunt 5 (some .int) ({ frames := 1, cells := 0, slots := 0, locals := 20 } : Room) D h cz i g [.ref (h 0)] (fun r u => u = (i, g) ∧ r = (-2)) := by
  refine k_I pn_X8_blunt (Nat.le_of_ble_eq_true rfl) ?_
  intro p e s m args below meth c ls Q X hret hT hl hS
  have hx := X.1
  have hb := X.2.1
  have hl : lv_has ls 5 [(0, .ref (h 0))] := hl
  refine lv_aload_n hx hb dX8_blunt_0 rfl (lv_at hl 0 rfl) ?_
  refine r_getr X hT 0 3 15 fk_8_32 rfl rfl (by decide) dX8_blunt_1 ?_
  refine r_Vi (As := []) (rest := []) X hT hS (k_X6_isTold_15 hR) mk_X6_isTold gm_698 rfl rfl (by decide) hd_X6_isTold ⟨rfl, rfl⟩ ⟨Nat.le_of_ble_eq_true rfl, Nat.le_of_ble_eq_true rfl⟩ hl.1 rfl (Nat.le_of_ble_eq_true rfl) dX8_blunt_4 ⟨Nat.zero_le _, Nat.zero_le _⟩ (fun r1 i1 g1 H locs hq hT hS => ?_)
  obtain ⟨eh1, rfl⟩ := hq
  rw [(Prod.mk.inj eh1).1, (Prod.mk.inj eh1).2] at hT
  refine lv_if_ne (tgt := 13) hx hb dX8_blunt_7 (by decide) (fun c2 => (x_ne (rg_k (by decide) : rg 0 0 0) (rg_k (by decide) : rg 0 0 0) (i_ne c2) (by decide)).elim) (fun c2 => ?_)
  refine lv_bipush (v := (-2)) hx hb dX8_blunt_10 (by decide) ?_
  exact hret (-2) _ _ _ _ _ _ dX8_blunt_12 hT hS ⟨rfl, rfl⟩

set_option maxRecDepth 100000 in
set_option maxHeartbeats 4000000 in
theorem k_X8_slit {l : Launch} {D : va_G} {h : Nat → Nat} {cz : Nat → ClassId} {i : Nat → Nat → Int32} {g : Nat → Nat → Int64} (hR : Rg rF i)  : CtI l yX8_slit cX8_slit 5 (some .int) ({ frames := 1, cells := 0, slots := 0, locals := 20 } : Room) D h cz i g [.ref (h 0)] (fun r u => u = (i, g) ∧ r = (-2)) := by
  refine k_I pn_X8_slit (Nat.le_of_ble_eq_true rfl) ?_
  intro p e s m args below meth c ls Q X hret hT hl hS
  have hx := X.1
  have hb := X.2.1
  have hl : lv_has ls 5 [(0, .ref (h 0))] := hl
  refine lv_aload_n hx hb dX8_slit_0 rfl (lv_at hl 0 rfl) ?_
  refine r_getr X hT 0 3 15 fk_8_32 rfl rfl (by decide) dX8_slit_1 ?_
  refine r_Vi (As := []) (rest := []) X hT hS (k_X6_isTold_15 hR) mk_X6_isTold gm_698 rfl rfl (by decide) hd_X6_isTold ⟨rfl, rfl⟩ ⟨Nat.le_of_ble_eq_true rfl, Nat.le_of_ble_eq_true rfl⟩ hl.1 rfl (Nat.le_of_ble_eq_true rfl) dX8_slit_4 ⟨Nat.zero_le _, Nat.zero_le _⟩ (fun r1 i1 g1 H locs hq hT hS => ?_)
  obtain ⟨eh1, rfl⟩ := hq
  rw [(Prod.mk.inj eh1).1, (Prod.mk.inj eh1).2] at hT
  refine lv_if_ne (tgt := 13) hx hb dX8_slit_7 (by decide) (fun c2 => (x_ne (rg_k (by decide) : rg 0 0 0) (rg_k (by decide) : rg 0 0 0) (i_ne c2) (by decide)).elim) (fun c2 => ?_)
  refine lv_bipush (v := (-2)) hx hb dX8_slit_10 (by decide) ?_
  exact hret (-2) _ _ _ _ _ _ dX8_slit_12 hT hS ⟨rfl, rfl⟩

set_option maxRecDepth 100000 in
set_option maxHeartbeats 4000000 in
theorem k_X8_uncle {l : Launch} {D : va_G} {h : Nat → Nat} {cz : Nat → ClassId} {i : Nat → Nat → Int32} {g : Nat → Nat → Int64} (hR : Rg rF i)  : CtI l yX8_uncle cX8_uncle 3 (some .int) ({ frames := 0, cells := 0, slots := 0, locals := 0 } : Room) D h cz i g [.ref (h 0)] (fun r u => u = (i, g) ∧ r = (-1000)) := by
  refine k_I pn_X8_uncle (Nat.le_of_ble_eq_true rfl) ?_
  intro p e s m args below meth c ls Q X hret hT hl hS
  have hx := X.1
  have hb := X.2.1
  have hl : lv_has ls 3 [(0, .ref (h 0))] := hl
  refine lv_aload_n hx hb dX8_uncle_0 rfl (lv_at hl 0 rfl) ?_
  refine r_getr X hT 0 3 15 fk_8_32 rfl rfl (by decide) dX8_uncle_1 ?_
  refine r_geti X hT 15 13 fk_8_156 rfl rfl (by decide) dX8_uncle_4 ?_
  refine lv_if_ne (tgt := 14) hx hb dX8_uncle_7 (by decide) (fun c1 => (x_ne (Rg_at hR 15 13 0 0 (by decide) rfl) (rg_k (by decide) : rg 0 0 0) (i_ne c1) (by decide)).elim) (fun c1 => ?_)
  have q1 : (i 15 13).toInt = 0 := i_eq c1
  refine lv_sipush (v := (-1000)) hx hb dX8_uncle_10 (by decide) ?_
  exact hret (-1000) _ _ _ _ _ _ dX8_uncle_13 hT hS ⟨rfl, rfl⟩

set_option maxRecDepth 100000 in
set_option maxHeartbeats 4000000 in
theorem k_X8_opens {l : Launch} {D : va_G} {h : Nat → Nat} {cz : Nat → ClassId} {i : Nat → Nat → Int32} {g : Nat → Nat → Int64} (hR : Rg rF i)  : CtI l yX8_opens cX8_opens 5 (some .int) ({ frames := 1, cells := 0, slots := 0, locals := 20 } : Room) D h cz i g [.ref (h 0)] (fun r u => u = (i, g) ∧ r = (-2)) := by
  refine k_I pn_X8_opens (Nat.le_of_ble_eq_true rfl) ?_
  intro p e s m args below meth c ls Q X hret hT hl hS
  have hx := X.1
  have hb := X.2.1
  have hl : lv_has ls 5 [(0, .ref (h 0))] := hl
  refine lv_aload_n hx hb dX8_opens_0 rfl (lv_at hl 0 rfl) ?_
  refine r_getr X hT 0 3 15 fk_8_32 rfl rfl (by decide) dX8_opens_1 ?_
  refine r_Vi (As := []) (rest := []) X hT hS (k_X6_isTold_15 hR) mk_X6_isTold gm_698 rfl rfl (by decide) hd_X6_isTold ⟨rfl, rfl⟩ ⟨Nat.le_of_ble_eq_true rfl, Nat.le_of_ble_eq_true rfl⟩ hl.1 rfl (Nat.le_of_ble_eq_true rfl) dX8_opens_4 ⟨Nat.zero_le _, Nat.zero_le _⟩ (fun r1 i1 g1 H locs hq hT hS => ?_)
  obtain ⟨eh1, rfl⟩ := hq
  rw [(Prod.mk.inj eh1).1, (Prod.mk.inj eh1).2] at hT
  refine lv_if_ne (tgt := 13) hx hb dX8_opens_7 (by decide) (fun c2 => (x_ne (rg_k (by decide) : rg 0 0 0) (rg_k (by decide) : rg 0 0 0) (i_ne c2) (by decide)).elim) (fun c2 => ?_)
  refine lv_bipush (v := (-2)) hx hb dX8_opens_10 (by decide) ?_
  exact hret (-2) _ _ _ _ _ _ dX8_opens_12 hT hS ⟨rfl, rfl⟩

set_option maxRecDepth 100000 in
set_option maxHeartbeats 4000000 in
theorem k_X8_replies {l : Launch} {D : va_G} {h : Nat → Nat} {cz : Nat → ClassId} {i : Nat → Nat → Int32} {g : Nat → Nat → Int64} (hR : Rg rF i) (a_a : Int32) : CtI l yX8_replies cX8_replies 2 (some .int) ({ frames := 1, cells := 0, slots := 0, locals := 21 } : Room) D h cz i g [.ref (h 0), .int a_a] (fun r u => u = (i, g) ∧ r = (-2)) := by
  refine k_I pn_X8_replies (Nat.le_of_ble_eq_true rfl) ?_
  intro p e s m args below meth c ls Q X hret hT hl hS
  have hx := X.1
  have hb := X.2.1
  have hl : lv_has ls 2 [(0, .ref (h 0)), (1, .int a_a)] := hl
  refine lv_aload_n hx hb dX8_replies_0 rfl (lv_at hl 0 rfl) ?_
  refine r_getr X hT 0 3 15 fk_8_32 rfl rfl (by decide) dX8_replies_1 ?_
  refine lv_iload_n hx hb dX8_replies_4 rfl (lv_at hl 1 rfl) ?_
  refine r_Vi (As := [.int a_a]) (rest := []) X hT hS (k_X6_hasPart_15 hR a_a) mk_X6_hasPart gm_669 rfl rfl (by decide) hd_X6_hasPart ⟨rfl, rfl⟩ ⟨Nat.le_of_ble_eq_true rfl, Nat.le_of_ble_eq_true rfl⟩ hl.1 rfl (Nat.le_of_ble_eq_true rfl) dX8_replies_5 ⟨Nat.zero_le _, Nat.zero_le _⟩ (fun r1 i1 g1 H locs hq hT hS => ?_)
  obtain ⟨eh1, rfl⟩ := hq
  rw [(Prod.mk.inj eh1).1, (Prod.mk.inj eh1).2] at hT
  refine lv_if_ne (tgt := 14) hx hb dX8_replies_8 (by decide) (fun c2 => (x_ne (rg_k (by decide) : rg 0 0 0) (rg_k (by decide) : rg 0 0 0) (i_ne c2) (by decide)).elim) (fun c2 => ?_)
  refine lv_bipush (v := (-2)) hx hb dX8_replies_11 (by decide) ?_
  exact hret (-2) _ _ _ _ _ _ dX8_replies_13 hT hS ⟨rfl, rfl⟩

set_option maxRecDepth 100000 in
set_option maxHeartbeats 4000000 in
theorem k_X8_isPair {l : Launch} {D : va_G} {h : Nat → Nat} {cz : Nat → ClassId} {i : Nat → Nat → Int32} {g : Nat → Nat → Int64} (hR : Rg rF i) (a_a : Int32) (a_b : Int32) : CtI l yX8_isPair cX8_isPair 3 (some .boolean) ({ frames := 1, cells := 0, slots := 0, locals := 21 } : Room) D h cz i g [.ref (h 0), .int a_a, .int a_b] (fun r u => u = (i, g) ∧ r = 0) := by
  refine k_Z (by intro v u hq; obtain ⟨-, hq⟩ := hq; exact Or.inl hq) pn_X8_isPair (Nat.le_of_ble_eq_true rfl) ?_
  intro p e s m args below meth c ls Q X hret hT hl hS
  have hx := X.1
  have hb := X.2.1
  have hl : lv_has ls 3 [(0, .ref (h 0)), (1, .int a_a), (2, .int a_b)] := hl
  refine lv_aload_n hx hb dX8_isPair_0 rfl (lv_at hl 0 rfl) ?_
  refine r_getr X hT 0 3 15 fk_8_32 rfl rfl (by decide) dX8_isPair_1 ?_
  refine lv_iload_n hx hb dX8_isPair_4 rfl (lv_at hl 1 rfl) ?_
  refine r_Vi (As := [.int a_a]) (rest := []) X hT hS (k_X6_hasPart_15 hR a_a) mk_X6_hasPart gm_669 rfl rfl (by decide) hd_X6_hasPart ⟨rfl, rfl⟩ ⟨Nat.le_of_ble_eq_true rfl, Nat.le_of_ble_eq_true rfl⟩ hl.1 rfl (Nat.le_of_ble_eq_true rfl) dX8_isPair_5 ⟨Nat.zero_le _, Nat.zero_le _⟩ (fun r1 i1 g1 H locs hq hT hS => ?_)
  obtain ⟨eh1, rfl⟩ := hq
  rw [(Prod.mk.inj eh1).1, (Prod.mk.inj eh1).2] at hT
  refine lv_if_eq (tgt := 31) hx hb dX8_isPair_8 (by decide) (fun c2 => ?_) (fun c2 => (x_ne (rg_k (by decide) : rg 0 0 0) (rg_k (by decide) : rg 0 0 0) (i_ne c2) (by decide)).elim)
  refine lv_iconst (v := 0) hx hb dX8_isPair_31 (by decide) ?_
  exact hret 0 _ _ _ _ _ _ dX8_isPair_32 hT hS ⟨rfl, rfl⟩

set_option maxRecDepth 100000 in
set_option maxHeartbeats 4000000 in
theorem k_X8_rests {l : Launch} {D : va_G} {h : Nat → Nat} {cz : Nat → ClassId} {i : Nat → Nat → Int32} {g : Nat → Nat → Int64} (hR : Rg rF i) (a_a : Int32) (a_b : Int32) : CtI l yX8_rests cX8_rests 8 (some .int) ({ frames := 2, cells := 0, slots := 0, locals := 43 } : Room) D h cz i g [.ref (h 0), .int a_a, .int a_b] (fun r u => u = (i, g) ∧ r = (-2)) := by
  refine k_I pn_X8_rests (Nat.le_of_ble_eq_true rfl) ?_
  intro p e s m args below meth c ls Q X hret hT hl hS
  have hx := X.1
  have hb := X.2.1
  have hl : lv_has ls 8 [(0, .ref (h 0)), (1, .int a_a), (2, .int a_b)] := hl
  refine lv_aload_n hx hb dX8_rests_0 rfl (lv_at hl 0 rfl) ?_
  refine lv_iload_n hx hb dX8_rests_1 rfl (lv_at hl 1 rfl) ?_
  refine lv_iload_n hx hb dX8_rests_2 rfl (lv_at hl 2 rfl) ?_
  refine r_Vi (As := [.int a_a, .int a_b]) (rest := []) X hT hS (k_X8_isPair hR a_a a_b) mk_X8_isPair gm_1180 rfl rfl (by decide) hd_X8_isPair ⟨rfl, rfl⟩ ⟨Nat.le_of_ble_eq_true rfl, Nat.le_of_ble_eq_true rfl⟩ hl.1 rfl (Nat.le_of_ble_eq_true rfl) dX8_rests_3 ⟨Nat.zero_le _, Nat.zero_le _⟩ (fun r1 i1 g1 H locs hq hT hS => ?_)
  obtain ⟨eh1, rfl⟩ := hq
  rw [(Prod.mk.inj eh1).1, (Prod.mk.inj eh1).2] at hT
  refine lv_if_ne (tgt := 12) hx hb dX8_rests_6 (by decide) (fun c2 => (x_ne (rg_k (by decide) : rg 0 0 0) (rg_k (by decide) : rg 0 0 0) (i_ne c2) (by decide)).elim) (fun c2 => ?_)
  refine lv_bipush (v := (-2)) hx hb dX8_rests_9 (by decide) ?_
  exact hret (-2) _ _ _ _ _ _ dX8_rests_11 hT hS ⟨rfl, rfl⟩

set_option maxRecDepth 100000 in
set_option maxHeartbeats 4000000 in
theorem k_X8_gets {l : Launch} {D : va_G} {h : Nat → Nat} {cz : Nat → ClassId} {i : Nat → Nat → Int32} {g : Nat → Nat → Int64} (hR : Rg rF i) (a_a : Int32) (a_b : Int32) (a_c : Int32) (a_d : Int32) : CtI l yX8_gets cX8_gets 5 (some .int) ({ frames := 2, cells := 0, slots := 0, locals := 43 } : Room) D h cz i g [.ref (h 0), .int a_a, .int a_b, .int a_c, .int a_d] (fun r u => u = (i, g) ∧ r = (-1000)) := by
  refine k_I pn_X8_gets (Nat.le_of_ble_eq_true rfl) ?_
  intro p e s m args below meth c ls Q X hret hT hl hS
  have hx := X.1
  have hb := X.2.1
  have hl : lv_has ls 5 [(0, .ref (h 0)), (1, .int a_a), (2, .int a_b), (3, .int a_c), (4, .int a_d)] := hl
  refine lv_aload_n hx hb dX8_gets_0 rfl (lv_at hl 0 rfl) ?_
  refine lv_iload_n hx hb dX8_gets_1 rfl (lv_at hl 1 rfl) ?_
  refine lv_iload_n hx hb dX8_gets_2 rfl (lv_at hl 2 rfl) ?_
  refine r_Vi (As := [.int a_a, .int a_b]) (rest := []) X hT hS (k_X8_isPair hR a_a a_b) mk_X8_isPair gm_1180 rfl rfl (by decide) hd_X8_isPair ⟨rfl, rfl⟩ ⟨Nat.le_of_ble_eq_true rfl, Nat.le_of_ble_eq_true rfl⟩ hl.1 rfl (Nat.le_of_ble_eq_true rfl) dX8_gets_3 ⟨Nat.zero_le _, Nat.zero_le _⟩ (fun r1 i1 g1 H locs hq hT hS => ?_)
  obtain ⟨eh1, rfl⟩ := hq
  rw [(Prod.mk.inj eh1).1, (Prod.mk.inj eh1).2] at hT
  refine lv_if_eq (tgt := 24) hx hb dX8_gets_6 (by decide) (fun c2 => ?_) (fun c2 => (x_ne (rg_k (by decide) : rg 0 0 0) (rg_k (by decide) : rg 0 0 0) (i_ne c2) (by decide)).elim)
  refine lv_sipush (v := (-1000)) hx hb dX8_gets_24 (by decide) ?_
  exact hret (-1000) _ _ _ _ _ _ dX8_gets_27 hT hS ⟨rfl, rfl⟩

set_option maxRecDepth 100000 in
set_option maxHeartbeats 4000000 in
theorem k_X8_chance {l : Launch} {D : va_G} {h : Nat → Nat} {cz : Nat → ClassId} {i : Nat → Nat → Int32} {g : Nat → Nat → Int64} (hR : Rg rF i) (a_a : Int32) (a_b : Int32) : CtI l yX8_chance cX8_chance 3 (some .int) ({ frames := 1, cells := 0, slots := 0, locals := 21 } : Room) D h cz i g [.ref (h 0), .int a_a, .int a_b] (fun r u => u = (i, g) ∧ r = (-2)) := by
  refine k_I pn_X8_chance (Nat.le_of_ble_eq_true rfl) ?_
  intro p e s m args below meth c ls Q X hret hT hl hS
  have hx := X.1
  have hb := X.2.1
  have hl : lv_has ls 3 [(0, .ref (h 0)), (1, .int a_a), (2, .int a_b)] := hl
  refine lv_aload_n hx hb dX8_chance_0 rfl (lv_at hl 0 rfl) ?_
  refine r_getr X hT 0 3 15 fk_8_32 rfl rfl (by decide) dX8_chance_1 ?_
  refine lv_iload_n hx hb dX8_chance_4 rfl (lv_at hl 1 rfl) ?_
  refine r_Vi (As := [.int a_a]) (rest := []) X hT hS (k_X6_hasPart_15 hR a_a) mk_X6_hasPart gm_669 rfl rfl (by decide) hd_X6_hasPart ⟨rfl, rfl⟩ ⟨Nat.le_of_ble_eq_true rfl, Nat.le_of_ble_eq_true rfl⟩ hl.1 rfl (Nat.le_of_ble_eq_true rfl) dX8_chance_5 ⟨Nat.zero_le _, Nat.zero_le _⟩ (fun r1 i1 g1 H locs hq hT hS => ?_)
  obtain ⟨eh1, rfl⟩ := hq
  rw [(Prod.mk.inj eh1).1, (Prod.mk.inj eh1).2] at hT
  refine lv_if_eq (tgt := 18) hx hb dX8_chance_8 (by decide) (fun c2 => ?_) (fun c2 => (x_ne (rg_k (by decide) : rg 0 0 0) (rg_k (by decide) : rg 0 0 0) (i_ne c2) (by decide)).elim)
  refine lv_bipush (v := (-2)) hx hb dX8_chance_18 (by decide) ?_
  exact hret (-2) _ _ _ _ _ _ dX8_chance_20 hT hS ⟨rfl, rfl⟩

set_option maxRecDepth 100000 in
set_option maxHeartbeats 4000000 in
theorem k_X8_mean {l : Launch} {D : va_G} {h : Nat → Nat} {cz : Nat → ClassId} {i : Nat → Nat → Int32} {g : Nat → Nat → Int64} (hR : Rg rF i) (a_a : Int32) : CtL l yX8_mean cX8_mean 2 (some .long) ({ frames := 1, cells := 0, slots := 0, locals := 20 } : Room) D h cz i g [.ref (h 0), .int a_a] (fun r u => u = (i, g) ∧ r = (-2)) := by
  refine k_L pn_X8_mean (Nat.le_of_ble_eq_true rfl) ?_
  intro p e s m args below meth c ls Q X hret hT hl hS
  have hx := X.1
  have hb := X.2.1
  have hl : lv_has ls 2 [(0, .ref (h 0)), (1, .int a_a)] := hl
  refine lv_aload_n hx hb dX8_mean_0 rfl (lv_at hl 0 rfl) ?_
  refine r_getr X hT 0 3 15 fk_8_32 rfl rfl (by decide) dX8_mean_1 ?_
  refine r_Vi (As := []) (rest := []) X hT hS (k_X6_isTold_15 hR) mk_X6_isTold gm_698 rfl rfl (by decide) hd_X6_isTold ⟨rfl, rfl⟩ ⟨Nat.le_of_ble_eq_true rfl, Nat.le_of_ble_eq_true rfl⟩ hl.1 rfl (Nat.le_of_ble_eq_true rfl) dX8_mean_4 ⟨Nat.zero_le _, Nat.zero_le _⟩ (fun r1 i1 g1 H locs hq hT hS => ?_)
  obtain ⟨eh1, rfl⟩ := hq
  rw [(Prod.mk.inj eh1).1, (Prod.mk.inj eh1).2] at hT
  refine lv_if_eq (tgt := 17) hx hb dX8_mean_7 (by decide) (fun c2 => ?_) (fun c2 => (x_ne (rg_k (by decide) : rg 0 0 0) (rg_k (by decide) : rg 0 0 0) (i_ne c2) (by decide)).elim)
  refine lv_ldc2 (v := (-2)) hx hb X.2.2.2.1 (X.2.2.2.2.1 _ gm_1228) dX8_mean_17 ?_
  exact hret (-2) _ _ _ _ _ _ dX8_mean_20 hT hS ⟨rfl, rfl⟩

set_option maxRecDepth 100000 in
set_option maxHeartbeats 4000000 in
theorem k_X8_refuseAct {l : Launch} {D : va_G} {h : Nat → Nat} {cz : Nat → ClassId} {i : Nat → Nat → Int32} {g : Nat → Nat → Int64} (hR : Rg rF i) (a_a : Int32) (a_b : Int32) : CtI l yX8_refuseAct cX8_refuseAct 3 (some .int) ({ frames := 1, cells := 0, slots := 0, locals := 21 } : Room) D h cz i g [.ref (h 0), .int a_a, .int a_b] (fun r u => u = (i, g) ∧ r = (-2)) := by
  refine k_I pn_X8_refuseAct (Nat.le_of_ble_eq_true rfl) ?_
  intro p e s m args below meth c ls Q X hret hT hl hS
  have hx := X.1
  have hb := X.2.1
  have hl : lv_has ls 3 [(0, .ref (h 0)), (1, .int a_a), (2, .int a_b)] := hl
  refine lv_aload_n hx hb dX8_refuseAct_0 rfl (lv_at hl 0 rfl) ?_
  refine r_getr X hT 0 3 15 fk_8_32 rfl rfl (by decide) dX8_refuseAct_1 ?_
  refine lv_iload_n hx hb dX8_refuseAct_4 rfl (lv_at hl 1 rfl) ?_
  refine r_Vi (As := [.int a_a]) (rest := []) X hT hS (k_X6_hasPart_15 hR a_a) mk_X6_hasPart gm_669 rfl rfl (by decide) hd_X6_hasPart ⟨rfl, rfl⟩ ⟨Nat.le_of_ble_eq_true rfl, Nat.le_of_ble_eq_true rfl⟩ hl.1 rfl (Nat.le_of_ble_eq_true rfl) dX8_refuseAct_5 ⟨Nat.zero_le _, Nat.zero_le _⟩ (fun r1 i1 g1 H locs hq hT hS => ?_)
  obtain ⟨eh1, rfl⟩ := hq
  rw [(Prod.mk.inj eh1).1, (Prod.mk.inj eh1).2] at hT
  refine lv_if_eq (tgt := 22) hx hb dX8_refuseAct_8 (by decide) (fun c2 => ?_) (fun c2 => (x_ne (rg_k (by decide) : rg 0 0 0) (rg_k (by decide) : rg 0 0 0) (i_ne c2) (by decide)).elim)
  refine lv_bipush (v := (-2)) hx hb dX8_refuseAct_22 (by decide) ?_
  exact hret (-2) _ _ _ _ _ _ dX8_refuseAct_24 hT hS ⟨rfl, rfl⟩

set_option maxRecDepth 100000 in
set_option maxHeartbeats 4000000 in
theorem k_X8_knife {l : Launch} {D : va_G} {h : Nat → Nat} {cz : Nat → ClassId} {i : Nat → Nat → Int32} {g : Nat → Nat → Int64} (hR : Rg rF i) (a_a : Int32) (a_b : Int32) : CtI l yX8_knife cX8_knife 4 (some .int) ({ frames := 2, cells := 0, slots := 0, locals := 43 } : Room) D h cz i g [.ref (h 0), .int a_a, .int a_b] (fun r u => u = (i, g) ∧ r = (-2)) := by
  refine k_I pn_X8_knife (Nat.le_of_ble_eq_true rfl) ?_
  intro p e s m args below meth c ls Q X hret hT hl hS
  have hx := X.1
  have hb := X.2.1
  have hl : lv_has ls 4 [(0, .ref (h 0)), (1, .int a_a), (2, .int a_b)] := hl
  refine lv_aload_n hx hb dX8_knife_0 rfl (lv_at hl 0 rfl) ?_
  refine lv_iload_n hx hb dX8_knife_1 rfl (lv_at hl 1 rfl) ?_
  refine lv_iload_n hx hb dX8_knife_2 rfl (lv_at hl 2 rfl) ?_
  refine r_Vi (As := [.int a_a, .int a_b]) (rest := []) X hT hS (k_X8_refuseAct hR a_a a_b) mk_X8_refuseAct gm_1254 rfl rfl (by decide) hd_X8_refuseAct ⟨rfl, rfl⟩ ⟨Nat.le_of_ble_eq_true rfl, Nat.le_of_ble_eq_true rfl⟩ hl.1 rfl (Nat.le_of_ble_eq_true rfl) dX8_knife_3 ⟨Nat.zero_le _, Nat.zero_le _⟩ (fun r1 i1 g1 H locs hq hT hS => ?_)
  obtain ⟨eh1, rfl⟩ := hq
  rw [(Prod.mk.inj eh1).1, (Prod.mk.inj eh1).2] at hT
  refine lv_istore_n (lv' := [(3, .int (-2)), (0, .ref (h 0)), (1, .int a_a), (2, .int a_b)]) hx hb dX8_knife_6 rfl hl (by decide) rfl (fun ls hl => ?_)
  refine lv_iload_n hx hb dX8_knife_7 rfl (lv_at hl 0 rfl) ?_
  refine lv_if_eq (tgt := 13) hx hb dX8_knife_8 (by decide) (fun c2 => (x_eq (rg_k (by decide) : rg (-2) (-2) (-2)) (rg_k (by decide) : rg 0 0 0) (i_eq c2) (by decide)).elim) (fun c2 => ?_)
  refine lv_iload_n hx hb dX8_knife_11 rfl (lv_at hl 0 rfl) ?_
  exact hret (-2) _ _ _ _ _ _ dX8_knife_12 hT hS ⟨rfl, rfl⟩

set_option maxRecDepth 100000 in
set_option maxHeartbeats 4000000 in
theorem k_X8_air {l : Launch} {D : va_G} {h : Nat → Nat} {cz : Nat → ClassId} {i : Nat → Nat → Int32} {g : Nat → Nat → Int64} (hR : Rg rF i) (a_a : Int32) (a_b : Int32) : CtI l yX8_air cX8_air 4 (some .int) ({ frames := 2, cells := 0, slots := 0, locals := 43 } : Room) D h cz i g [.ref (h 0), .int a_a, .int a_b] (fun r u => u = (i, g) ∧ r = (-2)) := by
  refine k_I pn_X8_air (Nat.le_of_ble_eq_true rfl) ?_
  intro p e s m args below meth c ls Q X hret hT hl hS
  have hx := X.1
  have hb := X.2.1
  have hl : lv_has ls 4 [(0, .ref (h 0)), (1, .int a_a), (2, .int a_b)] := hl
  refine lv_aload_n hx hb dX8_air_0 rfl (lv_at hl 0 rfl) ?_
  refine lv_iload_n hx hb dX8_air_1 rfl (lv_at hl 1 rfl) ?_
  refine lv_iload_n hx hb dX8_air_2 rfl (lv_at hl 2 rfl) ?_
  refine r_Vi (As := [.int a_a, .int a_b]) (rest := []) X hT hS (k_X8_refuseAct hR a_a a_b) mk_X8_refuseAct gm_1254 rfl rfl (by decide) hd_X8_refuseAct ⟨rfl, rfl⟩ ⟨Nat.le_of_ble_eq_true rfl, Nat.le_of_ble_eq_true rfl⟩ hl.1 rfl (Nat.le_of_ble_eq_true rfl) dX8_air_3 ⟨Nat.zero_le _, Nat.zero_le _⟩ (fun r1 i1 g1 H locs hq hT hS => ?_)
  obtain ⟨eh1, rfl⟩ := hq
  rw [(Prod.mk.inj eh1).1, (Prod.mk.inj eh1).2] at hT
  refine lv_istore_n (lv' := [(3, .int (-2)), (0, .ref (h 0)), (1, .int a_a), (2, .int a_b)]) hx hb dX8_air_6 rfl hl (by decide) rfl (fun ls hl => ?_)
  refine lv_iload_n hx hb dX8_air_7 rfl (lv_at hl 0 rfl) ?_
  refine lv_if_eq (tgt := 13) hx hb dX8_air_8 (by decide) (fun c2 => (x_eq (rg_k (by decide) : rg (-2) (-2) (-2)) (rg_k (by decide) : rg 0 0 0) (i_eq c2) (by decide)).elim) (fun c2 => ?_)
  refine lv_iload_n hx hb dX8_air_11 rfl (lv_at hl 0 rfl) ?_
  exact hret (-2) _ _ _ _ _ _ dX8_air_12 hT hS ⟨rfl, rfl⟩

set_option maxRecDepth 100000 in
set_option maxHeartbeats 4000000 in
theorem k_X8_undo {l : Launch} {D : va_G} {h : Nat → Nat} {cz : Nat → ClassId} {i : Nat → Nat → Int32} {g : Nat → Nat → Int64} (hR : Rg rF i)  : CtI l yX8_undo cX8_undo 1 (some .int) ({ frames := 1, cells := 0, slots := 0, locals := 20 } : Room) D h cz i g [.ref (h 0)] (fun r u => u = (i, g) ∧ r = (-2)) := by
  refine k_I pn_X8_undo (Nat.le_of_ble_eq_true rfl) ?_
  intro p e s m args below meth c ls Q X hret hT hl hS
  have hx := X.1
  have hb := X.2.1
  have hl : lv_has ls 1 [(0, .ref (h 0))] := hl
  refine lv_aload_n hx hb dX8_undo_0 rfl (lv_at hl 0 rfl) ?_
  refine r_getr X hT 0 3 15 fk_8_32 rfl rfl (by decide) dX8_undo_1 ?_
  refine r_Vi (As := []) (rest := []) X hT hS (k_X6_isTold_15 hR) mk_X6_isTold gm_698 rfl rfl (by decide) hd_X6_isTold ⟨rfl, rfl⟩ ⟨Nat.le_of_ble_eq_true rfl, Nat.le_of_ble_eq_true rfl⟩ hl.1 rfl (Nat.le_of_ble_eq_true rfl) dX8_undo_4 ⟨Nat.zero_le _, Nat.zero_le _⟩ (fun r1 i1 g1 H locs hq hT hS => ?_)
  obtain ⟨eh1, rfl⟩ := hq
  rw [(Prod.mk.inj eh1).1, (Prod.mk.inj eh1).2] at hT
  refine lv_if_ne (tgt := 13) hx hb dX8_undo_7 (by decide) (fun c2 => (x_ne (rg_k (by decide) : rg 0 0 0) (rg_k (by decide) : rg 0 0 0) (i_ne c2) (by decide)).elim) (fun c2 => ?_)
  refine lv_bipush (v := (-2)) hx hb dX8_undo_10 (by decide) ?_
  exact hret (-2) _ _ _ _ _ _ dX8_undo_12 hT hS ⟨rfl, rfl⟩

set_option maxRecDepth 100000 in
set_option maxHeartbeats 4000000 in
theorem k_X8_anew {l : Launch} {D : va_G} {h : Nat → Nat} {cz : Nat → ClassId} {i : Nat → Nat → Int32} {g : Nat → Nat → Int64} (hR : Rg rF i)  : CtI l yX8_anew cX8_anew 2 (some .int) ({ frames := 1, cells := 0, slots := 0, locals := 20 } : Room) D h cz i g [.ref (h 0)] (fun r u => u = (i, g) ∧ r = (-2)) := by
  refine k_I pn_X8_anew (Nat.le_of_ble_eq_true rfl) ?_
  intro p e s m args below meth c ls Q X hret hT hl hS
  have hx := X.1
  have hb := X.2.1
  have hl : lv_has ls 2 [(0, .ref (h 0))] := hl
  refine lv_aload_n hx hb dX8_anew_0 rfl (lv_at hl 0 rfl) ?_
  refine r_getr X hT 0 3 15 fk_8_32 rfl rfl (by decide) dX8_anew_1 ?_
  refine r_Vi (As := []) (rest := []) X hT hS (k_X6_isTold_15 hR) mk_X6_isTold gm_698 rfl rfl (by decide) hd_X6_isTold ⟨rfl, rfl⟩ ⟨Nat.le_of_ble_eq_true rfl, Nat.le_of_ble_eq_true rfl⟩ hl.1 rfl (Nat.le_of_ble_eq_true rfl) dX8_anew_4 ⟨Nat.zero_le _, Nat.zero_le _⟩ (fun r1 i1 g1 H locs hq hT hS => ?_)
  obtain ⟨eh1, rfl⟩ := hq
  rw [(Prod.mk.inj eh1).1, (Prod.mk.inj eh1).2] at hT
  refine lv_if_ne (tgt := 13) hx hb dX8_anew_7 (by decide) (fun c2 => (x_ne (rg_k (by decide) : rg 0 0 0) (rg_k (by decide) : rg 0 0 0) (i_ne c2) (by decide)).elim) (fun c2 => ?_)
  refine lv_bipush (v := (-2)) hx hb dX8_anew_10 (by decide) ?_
  exact hret (-2) _ _ _ _ _ _ dX8_anew_12 hT hS ⟨rfl, rfl⟩

set_option maxRecDepth 100000 in
set_option maxHeartbeats 4000000 in
theorem k_X8_drawn {l : Launch} {D : va_G} {h : Nat → Nat} {cz : Nat → ClassId} {i : Nat → Nat → Int32} {g : Nat → Nat → Int64} (hR : Rg rF i) (a_a : Int32) (a_b : Int32) : CtI l yX8_drawn cX8_drawn 4 (some .int) ({ frames := 1, cells := 0, slots := 0, locals := 20 } : Room) D h cz i g [.ref (h 0), .int a_a, .int a_b] (fun r u => u = (i, g) ∧ r = (-2)) := by
  refine k_I pn_X8_drawn (Nat.le_of_ble_eq_true rfl) ?_
  intro p e s m args below meth c ls Q X hret hT hl hS
  have hx := X.1
  have hb := X.2.1
  have hl : lv_has ls 4 [(0, .ref (h 0)), (1, .int a_a), (2, .int a_b)] := hl
  refine lv_aload_n hx hb dX8_drawn_0 rfl (lv_at hl 0 rfl) ?_
  refine r_getr X hT 0 3 15 fk_8_32 rfl rfl (by decide) dX8_drawn_1 ?_
  refine r_Vi (As := []) (rest := []) X hT hS (k_X6_isTold_15 hR) mk_X6_isTold gm_698 rfl rfl (by decide) hd_X6_isTold ⟨rfl, rfl⟩ ⟨Nat.le_of_ble_eq_true rfl, Nat.le_of_ble_eq_true rfl⟩ hl.1 rfl (Nat.le_of_ble_eq_true rfl) dX8_drawn_4 ⟨Nat.zero_le _, Nat.zero_le _⟩ (fun r1 i1 g1 H locs hq hT hS => ?_)
  obtain ⟨eh1, rfl⟩ := hq
  rw [(Prod.mk.inj eh1).1, (Prod.mk.inj eh1).2] at hT
  refine lv_if_eq (tgt := 26) hx hb dX8_drawn_7 (by decide) (fun c2 => ?_) (fun c2 => (x_ne (rg_k (by decide) : rg 0 0 0) (rg_k (by decide) : rg 0 0 0) (i_ne c2) (by decide)).elim)
  refine lv_bipush (v := (-2)) hx hb dX8_drawn_26 (by decide) ?_
  exact hret (-2) _ _ _ _ _ _ dX8_drawn_28 hT hS ⟨rfl, rfl⟩

set_option maxRecDepth 100000 in
set_option maxHeartbeats 4000000 in
theorem k_X8_luck {l : Launch} {D : va_G} {h : Nat → Nat} {cz : Nat → ClassId} {i : Nat → Nat → Int32} {g : Nat → Nat → Int64} (hR : Rg rF i) (a_a : Int32) (a_b : Int32) (a_c : Int32) : CtI l yX8_luck cX8_luck 6 (some .int) ({ frames := 1, cells := 0, slots := 0, locals := 21 } : Room) D h cz i g [.ref (h 0), .int a_a, .int a_b, .int a_c] (fun r u => u = (i, g) ∧ r = (-2)) := by
  refine k_I pn_X8_luck (Nat.le_of_ble_eq_true rfl) ?_
  intro p e s m args below meth c ls Q X hret hT hl hS
  have hx := X.1
  have hb := X.2.1
  have hl : lv_has ls 6 [(0, .ref (h 0)), (1, .int a_a), (2, .int a_b), (3, .int a_c)] := hl
  refine lv_aload_n hx hb dX8_luck_0 rfl (lv_at hl 0 rfl) ?_
  refine r_getr X hT 0 3 15 fk_8_32 rfl rfl (by decide) dX8_luck_1 ?_
  refine lv_iload_n hx hb dX8_luck_4 rfl (lv_at hl 3 rfl) ?_
  refine r_Vi (As := [.int a_c]) (rest := []) X hT hS (k_X6_hasPart_15 hR a_c) mk_X6_hasPart gm_669 rfl rfl (by decide) hd_X6_hasPart ⟨rfl, rfl⟩ ⟨Nat.le_of_ble_eq_true rfl, Nat.le_of_ble_eq_true rfl⟩ hl.1 rfl (Nat.le_of_ble_eq_true rfl) dX8_luck_5 ⟨Nat.zero_le _, Nat.zero_le _⟩ (fun r1 i1 g1 H locs hq hT hS => ?_)
  obtain ⟨eh1, rfl⟩ := hq
  rw [(Prod.mk.inj eh1).1, (Prod.mk.inj eh1).2] at hT
  refine lv_if_eq (tgt := 29) hx hb dX8_luck_8 (by decide) (fun c2 => ?_) (fun c2 => (x_ne (rg_k (by decide) : rg 0 0 0) (rg_k (by decide) : rg 0 0 0) (i_ne c2) (by decide)).elim)
  refine lv_bipush (v := (-2)) hx hb dX8_luck_29 (by decide) ?_
  exact hret (-2) _ _ _ _ _ _ dX8_luck_31 hT hS ⟨rfl, rfl⟩

set_option maxRecDepth 100000 in
set_option maxHeartbeats 4000000 in
theorem k_X8_rate {l : Launch} {D : va_G} {h : Nat → Nat} {cz : Nat → ClassId} {i : Nat → Nat → Int32} {g : Nat → Nat → Int64} (hR : Rg rF i) (a_a : Int32) (a_b : Int32) : CtI l yX8_rate cX8_rate 4 (some .int) ({ frames := 1, cells := 0, slots := 0, locals := 21 } : Room) D h cz i g [.ref (h 0), .int a_a, .int a_b] (fun r u => u = (i, g) ∧ r = (-2)) := by
  refine k_I pn_X8_rate (Nat.le_of_ble_eq_true rfl) ?_
  intro p e s m args below meth c ls Q X hret hT hl hS
  have hx := X.1
  have hb := X.2.1
  have hl : lv_has ls 4 [(0, .ref (h 0)), (1, .int a_a), (2, .int a_b)] := hl
  refine lv_aload_n hx hb dX8_rate_0 rfl (lv_at hl 0 rfl) ?_
  refine r_getr X hT 0 3 15 fk_8_32 rfl rfl (by decide) dX8_rate_1 ?_
  refine lv_iload_n hx hb dX8_rate_4 rfl (lv_at hl 1 rfl) ?_
  refine r_Vi (As := [.int a_a]) (rest := []) X hT hS (k_X6_hasPart_15 hR a_a) mk_X6_hasPart gm_669 rfl rfl (by decide) hd_X6_hasPart ⟨rfl, rfl⟩ ⟨Nat.le_of_ble_eq_true rfl, Nat.le_of_ble_eq_true rfl⟩ hl.1 rfl (Nat.le_of_ble_eq_true rfl) dX8_rate_5 ⟨Nat.zero_le _, Nat.zero_le _⟩ (fun r1 i1 g1 H locs hq hT hS => ?_)
  obtain ⟨eh1, rfl⟩ := hq
  rw [(Prod.mk.inj eh1).1, (Prod.mk.inj eh1).2] at hT
  refine lv_if_eq (tgt := 21) hx hb dX8_rate_8 (by decide) (fun c2 => ?_) (fun c2 => (x_ne (rg_k (by decide) : rg 0 0 0) (rg_k (by decide) : rg 0 0 0) (i_ne c2) (by decide)).elim)
  refine lv_bipush (v := (-2)) hx hb dX8_rate_21 (by decide) ?_
  exact hret (-2) _ _ _ _ _ _ dX8_rate_23 hT hS ⟨rfl, rfl⟩

set_option maxRecDepth 100000 in
set_option maxHeartbeats 4000000 in
theorem k_X8_fault {l : Launch} {D : va_G} {h : Nat → Nat} {cz : Nat → ClassId} {i : Nat → Nat → Int32} {g : Nat → Nat → Int64} (hR : Rg rF i) (a_a : Int32) : CtI l yX8_fault cX8_fault 2 (some .int) ({ frames := 0, cells := 0, slots := 0, locals := 0 } : Room) D h cz i g [.ref (h 0), .int a_a] (fun r u => (u = (i, g) ∧ r = 0 ∧ (a_a.toInt = 0)) ∨ (u = (i, g) ∧ r = (-1) ∧ (¬ a_a.toInt = 0))) := by
  refine k_I pn_X8_fault (Nat.le_of_ble_eq_true rfl) ?_
  intro p e s m args below meth c ls Q X hret hT hl hS
  have hx := X.1
  have hb := X.2.1
  have hl : lv_has ls 2 [(0, .ref (h 0)), (1, .int a_a)] := hl
  refine lv_iload_n hx hb dX8_fault_0 rfl (lv_at hl 1 rfl) ?_
  by_cases c2 : a_a.toInt = 0
  ·
    refine lv_lookup (tgt := 28) (off := 27) hx hb dX8_fault_1 rfl (by rw [c2]; rfl) (by decide) ?_
    have h3 : rg 0 0 a_a := ⟨by omega, by omega⟩
    refine lv_aload_n hx hb dX8_fault_28 rfl (lv_at hl 0 rfl) ?_
    refine r_getr X hT 0 2 14 fk_8_28 rfl rfl (by decide) dX8_fault_29 ?_
    refine r_geti X hT 14 6 fk_8_121 rfl rfl (by decide) dX8_fault_32 ?_
    exact hret (i 14 6) _ _ _ _ _ _ dX8_fault_35 hT hS (Or.inl ⟨rfl, (rg_c (Rg_at hR 14 6 0 0 (by decide) rfl)), (by omega)⟩)
  ·
    by_cases c4 : a_a.toInt = 1
    ·
      refine lv_lookup (tgt := 36) (off := 35) hx hb dX8_fault_1 rfl (by rw [c4]; rfl) (by decide) ?_
      have h5 : rg 1 1 a_a := ⟨by omega, by omega⟩
      refine lv_aload_n hx hb dX8_fault_36 rfl (lv_at hl 0 rfl) ?_
      refine r_getr X hT 0 2 14 fk_8_28 rfl rfl (by decide) dX8_fault_37 ?_
      refine r_geti X hT 14 7 fk_8_124 rfl rfl (by decide) dX8_fault_40 ?_
      exact hret (i 14 7) _ _ _ _ _ _ dX8_fault_43 hT hS (Or.inr ⟨rfl, (rg_c (Rg_at hR 14 7 (-1) (-1) (by decide) rfl)), (by omega)⟩)
    ·
      refine lv_lookup (tgt := 44) (off := 43) hx hb dX8_fault_1 rfl (by simp [Op.lookupswitch.offset, Ne.symm c2, Ne.symm c4]) (by decide) ?_
      refine lv_iconst (v := (-1)) hx hb dX8_fault_44 (by decide) ?_
      exact hret (-1) _ _ _ _ _ _ dX8_fault_45 hT hS (Or.inr ⟨rfl, rfl, (by omega)⟩)

set_option maxRecDepth 100000 in
set_option maxHeartbeats 4000000 in
theorem k_X8_end {l : Launch} {D : va_G} {h : Nat → Nat} {cz : Nat → ClassId} {i : Nat → Nat → Int32} {g : Nat → Nat → Int64} (hR : Rg rF i) (a_a : Int32) : CtI l yX8_end cX8_end 2 (some .int) ({ frames := 0, cells := 0, slots := 0, locals := 0 } : Room) D h cz i g [.ref (h 0), .int a_a] (fun r u => (Rg rF u.1 ∧ r = 0 ∧ (a_a.toInt = 0)) ∨ (Rg rF u.1 ∧ r = (-1) ∧ (¬ a_a.toInt = 0))) := by
  refine k_I pn_X8_end (Nat.le_of_ble_eq_true rfl) ?_
  intro p e s m args below meth c ls Q X hret hT hl hS
  have hx := X.1
  have hb := X.2.1
  have hl : lv_has ls 2 [(0, .ref (h 0)), (1, .int a_a)] := hl
  refine lv_iload_n hx hb dX8_end_0 rfl (lv_at hl 1 rfl) ?_
  refine lv_if_lt (tgt := 15) hx hb dX8_end_1 (by decide) (fun c1 => ?_) (fun c1 => ?_)
  ·
    have q1 : a_a.toInt < 0 := i_lt c1
    have h2 : rg (-2147483648) (-1) a_a := t_ltx (-2147483648) (-1) (rg_top a_a) (rg_k (by decide) : rg 0 0 0) (i_lt c1) (by decide)
    refine lv_iconst (v := (-1)) hx hb dX8_end_15 (by decide) ?_
    exact hret (-1) _ _ _ _ _ _ dX8_end_16 hT hS (Or.inr ⟨hR, rfl, (by have := h2.1; have := h2.2; omega)⟩)
  ·
    have q1 : 0 ≤ a_a.toInt := i_nlt c1
    have h3 : rg 0 2147483647 a_a := t_ley 0 2147483647 (rg_k (by decide) : rg 0 0 0) (rg_top a_a) (i_nlt c1) (by decide)
    refine lv_iload_n hx hb dX8_end_4 rfl (lv_at hl 1 rfl) ?_
    refine lv_aload_n hx hb dX8_end_5 rfl (lv_at hl 0 rfl) ?_
    refine r_getr X hT 0 0 1 fk_8_10 rfl rfl (by decide) dX8_end_6 ?_
    refine r_geti X hT 1 1 fk_8_106 rfl rfl (by decide) dX8_end_9 ?_
    refine lv_icmp_le (tgt := 17) hx hb dX8_end_12 (by decide) (fun c4 => ?_) (fun c4 => ?_)
    ·
      have q4 : a_a.toInt ≤ (i 1 1).toInt := i_le c4
      have h5 : rg 0 0 a_a := t_lex 0 0 h3 (Rg_at hR 1 1 0 0 (by decide) rfl) (i_le c4) (by decide)
      refine lv_aload_n hx hb dX8_end_17 rfl (lv_at hl 0 rfl) ?_
      refine r_getr X hT 0 0 1 fk_8_10 rfl rfl (by decide) dX8_end_18 ?_
      refine lv_iload_n hx hb dX8_end_21 rfl (lv_at hl 1 rfl) ?_
      refine r_puti X hT hS 1 1 pk_8_106 rfl rfl rfl rfl (by decide) dX8_end_22 (fun H locs i6 ei6 hT hS => ?_)
      have hR6 := Rg_put hR ei6 0 0 rfl h5 (by decide)
      refine lv_iload_n hx hb dX8_end_25 rfl (lv_at hl 1 rfl) ?_
      exact hret a_a _ _ _ _ _ _ dX8_end_26 hT hS (Or.inl ⟨hR6, (rg_c h5), (by have := h5.1; have := h5.2; have := (Rg_at hR 1 1 0 0 (by decide) rfl).1; have := (Rg_at hR 1 1 0 0 (by decide) rfl).2; omega)⟩)
    ·
      have q4 : (i 1 1).toInt < a_a.toInt := i_nle c4
      have h7 : rg 1 2147483647 a_a := t_lty 1 2147483647 (Rg_at hR 1 1 0 0 (by decide) rfl) h3 (i_nle c4) (by decide)
      refine lv_iconst (v := (-1)) hx hb dX8_end_15 (by decide) ?_
      exact hret (-1) _ _ _ _ _ _ dX8_end_16 hT hS (Or.inr ⟨hR, rfl, (by have := h7.1; have := h7.2; have := (Rg_at hR 1 1 0 0 (by decide) rfl).1; have := (Rg_at hR 1 1 0 0 (by decide) rfl).2; omega)⟩)

set_option maxRecDepth 100000 in
set_option maxHeartbeats 4000000 in
theorem k_X5_isBare_61 {l : Launch} {D : va_G} {h : Nat → Nat} {cz : Nat → ClassId} {i : Nat → Nat → Int32} {g : Nat → Nat → Int64} (hR : Rg rF i) (a_a : Int32) (ha_a : rg 0 3 a_a) : CtI l yX5_isBare cX5_isBare 2 (some .boolean) ({ frames := 0, cells := 0, slots := 0, locals := 0 } : Room) D h cz i g [.ref (h 61), .int a_a] (fun r u => u = (i, g) ∧ r = 1) := by
  refine k_Z (by intro v u hq; obtain ⟨-, hq⟩ := hq; exact Or.inr hq) pn_X5_isBare (Nat.le_of_ble_eq_true rfl) ?_
  intro p e s m args below meth c ls Q X hret hT hl hS
  have hx := X.1
  have hb := X.2.1
  have hl : lv_has ls 2 [(0, .ref (h 61)), (1, .int a_a)] := hl
  refine lv_aload_n hx hb dX5_isBare_0 rfl (lv_at hl 0 rfl) ?_
  refine r_getr X hT 61 0 62 fk_5_9 rfl rfl (by decide) dX5_isBare_1 ?_
  refine lv_iload_n hx hb dX5_isBare_4 rfl (lv_at hl 1 rfl) ?_
  refine r_iald X hT 62 rfl (by decide) (v_in ha_a (by decide)) dX5_isBare_5 ?_
  refine lv_iconst (v := (-1)) hx hb dX5_isBare_6 (by decide) ?_
  refine lv_icmp_ne (tgt := 14) hx hb dX5_isBare_7 (by decide) (fun c1 => (x_ne (Rg_at hR 62 a_a.toNatClampNeg (-1) (-1) (v_lt (v_in ha_a (by decide))) rfl) (rg_k (by decide) : rg (-1) (-1) (-1)) (i_ne c1) (by decide)).elim) (fun c1 => ?_)
  have q1 : (i 62 a_a.toNatClampNeg).toInt = (-1) := i_eq c1
  refine lv_iconst (v := 1) hx hb dX5_isBare_10 (by decide) ?_
  refine lv_goto (tgt := 15) hx hb dX5_isBare_11 (by decide) ?_
  exact hret 1 _ _ _ _ _ _ dX5_isBare_15 hT hS ⟨rfl, rfl⟩

set_option maxRecDepth 100000 in
set_option maxHeartbeats 4000000 in
theorem k_X5_filled_61 {l : Launch} {D : va_G} {h : Nat → Nat} {cz : Nat → ClassId} {i : Nat → Nat → Int32} {g : Nat → Nat → Int64} (hR : Rg rF i)  : CtI l yX5_filled cX5_filled 3 (some .int) ({ frames := 1, cells := 0, slots := 0, locals := 21 } : Room) D h cz i g [.ref (h 61)] (fun r u => u = (i, g) ∧ r = 0) := by
  refine k_I pn_X5_filled (Nat.le_of_ble_eq_true rfl) ?_
  intro p e s m args below meth c ls Q X hret hT hl hS
  have hx := X.1
  have hb := X.2.1
  have hl : lv_has ls 3 [(0, .ref (h 61))] := hl
  refine lv_iconst (v := 0) hx hb dX5_filled_0 (by decide) ?_
  refine lv_istore_n (lv' := [(1, .int 0), (0, .ref (h 61))]) hx hb dX5_filled_1 rfl hl (by decide) rfl (fun ls hl => ?_)
  refine lv_iconst (v := 0) hx hb dX5_filled_2 (by decide) ?_
  refine lv_istore_n (lv' := [(2, .int 0), (1, .int 0), (0, .ref (h 61))]) hx hb dX5_filled_3 rfl hl (by decide) rfl (fun ls hl => ?_)
  refine lv_iload_n hx hb dX5_filled_4 rfl (lv_at hl 0 rfl) ?_
  refine lv_iconst (v := 4) hx hb dX5_filled_5 (by decide) ?_
  refine lv_icmp_ge (tgt := 31) hx hb dX5_filled_6 (by decide) (fun c1 => (x_le (rg_k (by decide) : rg 4 4 4) (rg_k (by decide) : rg 0 0 0) (i_le c1) (by decide)).elim) (fun c1 => ?_)
  refine lv_iload_n hx hb dX5_filled_9 rfl (lv_at hl 1 rfl) ?_
  refine lv_aload_n hx hb dX5_filled_10 rfl (lv_at hl 2 rfl) ?_
  refine lv_iload_n hx hb dX5_filled_11 rfl (lv_at hl 0 rfl) ?_
  refine r_Vi (As := [.int 0]) (rest := [.int 0]) X hT hS (k_X5_isBare_61 hR (0) (rg_w (rg_k (by decide) : rg 0 0 0) (by decide) : rg 0 3 0)) mk_X5_isBare gm_719 rfl rfl (by decide) hd_X5_isBare ⟨rfl, rfl⟩ ⟨Nat.le_of_ble_eq_true rfl, Nat.le_of_ble_eq_true rfl⟩ hl.1 rfl (Nat.le_of_ble_eq_true rfl) dX5_filled_12 ⟨Nat.zero_le _, Nat.zero_le _⟩ (fun r2 i2 g2 H locs hq hT hS => ?_)
  obtain ⟨eh2, rfl⟩ := hq
  rw [(Prod.mk.inj eh2).1, (Prod.mk.inj eh2).2] at hT
  refine lv_if_eq (tgt := 22) hx hb dX5_filled_15 (by decide) (fun c3 => (x_eq (rg_k (by decide) : rg 1 1 1) (rg_k (by decide) : rg 0 0 0) (i_eq c3) (by decide)).elim) (fun c3 => ?_)
  refine lv_iconst (v := 0) hx hb dX5_filled_18 (by decide) ?_
  refine lv_goto (tgt := 23) hx hb dX5_filled_19 (by decide) ?_
  refine q_iadd hx hb dX5_filled_23 (fun x4 ex4 => ?_)
  obtain ⟨hx4, ax4⟩ := rg_add 0 0 ex4 (rg_k (by decide) : rg 0 0 0) (rg_k (by decide) : rg 0 0 0) (by decide)
  replace ax4 : x4.toInt = 0 + 0 := ax4
  refine lv_istore_n (lv' := [(1, .int x4), (2, .int 0), (0, .ref (h 61))]) hx hb dX5_filled_24 rfl hl (by decide) rfl (fun ls hl => ?_)
  obtain ⟨x5, ex5⟩ : ∃ y : Int32, y = 0 + 1 := ⟨_, rfl⟩
  refine lv_iinc (v := x5) (lv' := [(2, .int x5), (1, .int x4), (0, .ref (h 61))]) hx hb dX5_filled_25 hl (k := 1) rfl (by rw [ex5]; rfl) (by decide) rfl (fun ls hl => ?_)
  obtain ⟨hx5, ax5⟩ := rg_add 1 1 ex5 (rg_k (by decide) : rg 0 0 0) (rg_k (by decide) : rg 1 1 1) (by decide)
  replace ax5 : x5.toInt = 0 + 1 := ax5
  refine lv_goto (tgt := 4) hx hb dX5_filled_28 (by decide) ?_
  refine lv_iload_n hx hb dX5_filled_4 rfl (lv_at hl 0 rfl) ?_
  refine lv_iconst (v := 4) hx hb dX5_filled_5 (by decide) ?_
  refine lv_icmp_ge (tgt := 31) hx hb dX5_filled_6 (by decide) (fun c6 => (x_le (rg_k (by decide) : rg 4 4 4) hx5 (i_le c6) (by decide)).elim) (fun c6 => ?_)
  have q6 : x5.toInt < 4 := i_nle c6
  refine lv_iload_n hx hb dX5_filled_9 rfl (lv_at hl 1 rfl) ?_
  refine lv_aload_n hx hb dX5_filled_10 rfl (lv_at hl 2 rfl) ?_
  refine lv_iload_n hx hb dX5_filled_11 rfl (lv_at hl 0 rfl) ?_
  refine r_Vi (As := [.int x5]) (rest := [.int x4]) X hT hS (k_X5_isBare_61 hR x5 (rg_w hx5 (by decide) : rg 0 3 x5)) mk_X5_isBare gm_719 rfl rfl (by decide) hd_X5_isBare ⟨rfl, rfl⟩ ⟨Nat.le_of_ble_eq_true rfl, Nat.le_of_ble_eq_true rfl⟩ hl.1 rfl (Nat.le_of_ble_eq_true rfl) dX5_filled_12 ⟨Nat.zero_le _, Nat.zero_le _⟩ (fun r7 i7 g7 H locs hq hT hS => ?_)
  obtain ⟨eh7, rfl⟩ := hq
  rw [(Prod.mk.inj eh7).1, (Prod.mk.inj eh7).2] at hT
  refine lv_if_eq (tgt := 22) hx hb dX5_filled_15 (by decide) (fun c8 => (x_eq (rg_k (by decide) : rg 1 1 1) (rg_k (by decide) : rg 0 0 0) (i_eq c8) (by decide)).elim) (fun c8 => ?_)
  refine lv_iconst (v := 0) hx hb dX5_filled_18 (by decide) ?_
  refine lv_goto (tgt := 23) hx hb dX5_filled_19 (by decide) ?_
  refine q_iadd hx hb dX5_filled_23 (fun x9 ex9 => ?_)
  obtain ⟨hx9, ax9⟩ := rg_add 0 0 ex9 hx4 (rg_k (by decide) : rg 0 0 0) (by decide)
  replace ax9 : x9.toInt = x4.toInt + 0 := ax9
  refine lv_istore_n (lv' := [(1, .int x9), (2, .int x5), (0, .ref (h 61))]) hx hb dX5_filled_24 rfl hl (by decide) rfl (fun ls hl => ?_)
  obtain ⟨x10, ex10⟩ : ∃ y : Int32, y = x5 + 1 := ⟨_, rfl⟩
  refine lv_iinc (v := x10) (lv' := [(2, .int x10), (1, .int x9), (0, .ref (h 61))]) hx hb dX5_filled_25 hl (k := 1) rfl (by rw [ex10]; rfl) (by decide) rfl (fun ls hl => ?_)
  obtain ⟨hx10, ax10⟩ := rg_add 2 2 ex10 hx5 (rg_k (by decide) : rg 1 1 1) (by decide)
  replace ax10 : x10.toInt = x5.toInt + 1 := ax10
  refine lv_goto (tgt := 4) hx hb dX5_filled_28 (by decide) ?_
  refine lv_iload_n hx hb dX5_filled_4 rfl (lv_at hl 0 rfl) ?_
  refine lv_iconst (v := 4) hx hb dX5_filled_5 (by decide) ?_
  refine lv_icmp_ge (tgt := 31) hx hb dX5_filled_6 (by decide) (fun c11 => (x_le (rg_k (by decide) : rg 4 4 4) hx10 (i_le c11) (by decide)).elim) (fun c11 => ?_)
  have q11 : x10.toInt < 4 := i_nle c11
  refine lv_iload_n hx hb dX5_filled_9 rfl (lv_at hl 1 rfl) ?_
  refine lv_aload_n hx hb dX5_filled_10 rfl (lv_at hl 2 rfl) ?_
  refine lv_iload_n hx hb dX5_filled_11 rfl (lv_at hl 0 rfl) ?_
  refine r_Vi (As := [.int x10]) (rest := [.int x9]) X hT hS (k_X5_isBare_61 hR x10 (rg_w hx10 (by decide) : rg 0 3 x10)) mk_X5_isBare gm_719 rfl rfl (by decide) hd_X5_isBare ⟨rfl, rfl⟩ ⟨Nat.le_of_ble_eq_true rfl, Nat.le_of_ble_eq_true rfl⟩ hl.1 rfl (Nat.le_of_ble_eq_true rfl) dX5_filled_12 ⟨Nat.zero_le _, Nat.zero_le _⟩ (fun r12 i12 g12 H locs hq hT hS => ?_)
  obtain ⟨eh12, rfl⟩ := hq
  rw [(Prod.mk.inj eh12).1, (Prod.mk.inj eh12).2] at hT
  refine lv_if_eq (tgt := 22) hx hb dX5_filled_15 (by decide) (fun c13 => (x_eq (rg_k (by decide) : rg 1 1 1) (rg_k (by decide) : rg 0 0 0) (i_eq c13) (by decide)).elim) (fun c13 => ?_)
  refine lv_iconst (v := 0) hx hb dX5_filled_18 (by decide) ?_
  refine lv_goto (tgt := 23) hx hb dX5_filled_19 (by decide) ?_
  refine q_iadd hx hb dX5_filled_23 (fun x14 ex14 => ?_)
  obtain ⟨hx14, ax14⟩ := rg_add 0 0 ex14 hx9 (rg_k (by decide) : rg 0 0 0) (by decide)
  replace ax14 : x14.toInt = x9.toInt + 0 := ax14
  refine lv_istore_n (lv' := [(1, .int x14), (2, .int x10), (0, .ref (h 61))]) hx hb dX5_filled_24 rfl hl (by decide) rfl (fun ls hl => ?_)
  obtain ⟨x15, ex15⟩ : ∃ y : Int32, y = x10 + 1 := ⟨_, rfl⟩
  refine lv_iinc (v := x15) (lv' := [(2, .int x15), (1, .int x14), (0, .ref (h 61))]) hx hb dX5_filled_25 hl (k := 1) rfl (by rw [ex15]; rfl) (by decide) rfl (fun ls hl => ?_)
  obtain ⟨hx15, ax15⟩ := rg_add 3 3 ex15 hx10 (rg_k (by decide) : rg 1 1 1) (by decide)
  replace ax15 : x15.toInt = x10.toInt + 1 := ax15
  refine lv_goto (tgt := 4) hx hb dX5_filled_28 (by decide) ?_
  refine lv_iload_n hx hb dX5_filled_4 rfl (lv_at hl 0 rfl) ?_
  refine lv_iconst (v := 4) hx hb dX5_filled_5 (by decide) ?_
  refine lv_icmp_ge (tgt := 31) hx hb dX5_filled_6 (by decide) (fun c16 => (x_le (rg_k (by decide) : rg 4 4 4) hx15 (i_le c16) (by decide)).elim) (fun c16 => ?_)
  have q16 : x15.toInt < 4 := i_nle c16
  refine lv_iload_n hx hb dX5_filled_9 rfl (lv_at hl 1 rfl) ?_
  refine lv_aload_n hx hb dX5_filled_10 rfl (lv_at hl 2 rfl) ?_
  refine lv_iload_n hx hb dX5_filled_11 rfl (lv_at hl 0 rfl) ?_
  refine r_Vi (As := [.int x15]) (rest := [.int x14]) X hT hS (k_X5_isBare_61 hR x15 (rg_w hx15 (by decide) : rg 0 3 x15)) mk_X5_isBare gm_719 rfl rfl (by decide) hd_X5_isBare ⟨rfl, rfl⟩ ⟨Nat.le_of_ble_eq_true rfl, Nat.le_of_ble_eq_true rfl⟩ hl.1 rfl (Nat.le_of_ble_eq_true rfl) dX5_filled_12 ⟨Nat.zero_le _, Nat.zero_le _⟩ (fun r17 i17 g17 H locs hq hT hS => ?_)
  obtain ⟨eh17, rfl⟩ := hq
  rw [(Prod.mk.inj eh17).1, (Prod.mk.inj eh17).2] at hT
  refine lv_if_eq (tgt := 22) hx hb dX5_filled_15 (by decide) (fun c18 => (x_eq (rg_k (by decide) : rg 1 1 1) (rg_k (by decide) : rg 0 0 0) (i_eq c18) (by decide)).elim) (fun c18 => ?_)
  refine lv_iconst (v := 0) hx hb dX5_filled_18 (by decide) ?_
  refine lv_goto (tgt := 23) hx hb dX5_filled_19 (by decide) ?_
  refine q_iadd hx hb dX5_filled_23 (fun x19 ex19 => ?_)
  obtain ⟨hx19, ax19⟩ := rg_add 0 0 ex19 hx14 (rg_k (by decide) : rg 0 0 0) (by decide)
  replace ax19 : x19.toInt = x14.toInt + 0 := ax19
  refine lv_istore_n (lv' := [(1, .int x19), (2, .int x15), (0, .ref (h 61))]) hx hb dX5_filled_24 rfl hl (by decide) rfl (fun ls hl => ?_)
  obtain ⟨x20, ex20⟩ : ∃ y : Int32, y = x15 + 1 := ⟨_, rfl⟩
  refine lv_iinc (v := x20) (lv' := [(2, .int x20), (1, .int x19), (0, .ref (h 61))]) hx hb dX5_filled_25 hl (k := 1) rfl (by rw [ex20]; rfl) (by decide) rfl (fun ls hl => ?_)
  obtain ⟨hx20, ax20⟩ := rg_add 4 4 ex20 hx15 (rg_k (by decide) : rg 1 1 1) (by decide)
  replace ax20 : x20.toInt = x15.toInt + 1 := ax20
  refine lv_goto (tgt := 4) hx hb dX5_filled_28 (by decide) ?_
  refine lv_iload_n hx hb dX5_filled_4 rfl (lv_at hl 0 rfl) ?_
  refine lv_iconst (v := 4) hx hb dX5_filled_5 (by decide) ?_
  refine lv_icmp_ge (tgt := 31) hx hb dX5_filled_6 (by decide) (fun c21 => ?_) (fun c21 => (x_lt hx20 (rg_k (by decide) : rg 4 4 4) (i_nle c21) (by decide)).elim)
  have q21 : 4 ≤ x20.toInt := i_le c21
  refine lv_iload_n hx hb dX5_filled_31 rfl (lv_at hl 1 rfl) ?_
  exact hret x19 _ _ _ _ _ _ dX5_filled_32 hT hS ⟨rfl, (rg_c hx19)⟩

set_option maxRecDepth 100000 in
set_option maxHeartbeats 4000000 in
theorem k_X8_count {l : Launch} {D : va_G} {h : Nat → Nat} {cz : Nat → ClassId} {i : Nat → Nat → Int32} {g : Nat → Nat → Int64} (hR : Rg rF i) (a_a : Int32) : CtI l yX8_count cX8_count 2 (some .int) ({ frames := 2, cells := 0, slots := 0, locals := 43 } : Room) D h cz i g [.ref (h 0), .int a_a] (fun r u => (u = (i, g) ∧ r = 0 ∧ (0 ≤ a_a.toInt ∧ a_a.toInt ≤ 9)) ∨ (u = (i, g) ∧ r = (-1) ∧ (a_a.toInt < 0 ∨ 9 < a_a.toInt))) := by
  refine k_I pn_X8_count (Nat.le_of_ble_eq_true rfl) ?_
  intro p e s m args below meth c ls Q X hret hT hl hS
  have hx := X.1
  have hb := X.2.1
  have hl : lv_has ls 2 [(0, .ref (h 0)), (1, .int a_a)] := hl
  refine lv_iload_n hx hb dX8_count_0 rfl (lv_at hl 1 rfl) ?_
  rcases Int.lt_or_le a_a.toInt 0 with c1 | c1
  ·
    refine lv_tableOut (tgt := 136) hx hb dX8_count_1 (Or.inl c1) (by decide) ?_
    refine lv_iconst (v := (-1)) hx hb dX8_count_136 (by decide) ?_
    exact hret (-1) _ _ _ _ _ _ dX8_count_137 hT hS (Or.inr ⟨rfl, rfl, (by omega)⟩)
  ·
    rcases Int.lt_or_le 9 a_a.toInt with d1 | d1
    ·
      refine lv_tableOut (tgt := 136) hx hb dX8_count_1 (Or.inr d1) (by decide) ?_
      refine lv_iconst (v := (-1)) hx hb dX8_count_136 (by decide) ?_
      exact hret (-1) _ _ _ _ _ _ dX8_count_137 hT hS (Or.inr ⟨rfl, rfl, (by omega)⟩)
    ·
      rcases (show a_a.toInt = 0 ∨ a_a.toInt = 1 ∨ a_a.toInt = 2 ∨ a_a.toInt = 3 ∨ a_a.toInt = 4 ∨ a_a.toInt = 5 ∨ a_a.toInt = 6 ∨ a_a.toInt = 7 ∨ a_a.toInt = 8 ∨ a_a.toInt = 9 by omega) with f1 | f1 | f1 | f1 | f1 | f1 | f1 | f1 | f1 | f1
      ·
        refine lv_tableIn (tgt := 56) (off := 55) hx hb dX8_count_1 (by omega) (by omega) (by rw [f1]; rfl) (by decide) ?_
        have h2 : rg 0 0 a_a := ⟨by omega, by omega⟩
        refine lv_aload_n hx hb dX8_count_56 rfl (lv_at hl 0 rfl) ?_
        refine r_getr X hT 0 3 15 fk_8_32 rfl rfl (by decide) dX8_count_57 ?_
        refine r_geti X hT 15 10 fk_8_168 rfl rfl (by decide) dX8_count_60 ?_
        exact hret (i 15 10) _ _ _ _ _ _ dX8_count_63 hT hS (Or.inl ⟨rfl, (rg_c (Rg_at hR 15 10 0 0 (by decide) rfl)), (by omega)⟩)
      ·
        refine lv_tableIn (tgt := 64) (off := 63) hx hb dX8_count_1 (by omega) (by omega) (by rw [f1]; rfl) (by decide) ?_
        have h3 : rg 1 1 a_a := ⟨by omega, by omega⟩
        refine lv_aload_n hx hb dX8_count_64 rfl (lv_at hl 0 rfl) ?_
        refine r_getr X hT 0 3 15 fk_8_32 rfl rfl (by decide) dX8_count_65 ?_
        refine r_geti X hT 15 11 fk_8_171 rfl rfl (by decide) dX8_count_68 ?_
        exact hret (i 15 11) _ _ _ _ _ _ dX8_count_71 hT hS (Or.inl ⟨rfl, (rg_c (Rg_at hR 15 11 0 0 (by decide) rfl)), (by omega)⟩)
      ·
        refine lv_tableIn (tgt := 72) (off := 71) hx hb dX8_count_1 (by omega) (by omega) (by rw [f1]; rfl) (by decide) ?_
        have h4 : rg 2 2 a_a := ⟨by omega, by omega⟩
        refine lv_aload_n hx hb dX8_count_72 rfl (lv_at hl 0 rfl) ?_
        refine r_getr X hT 0 3 15 fk_8_32 rfl rfl (by decide) dX8_count_73 ?_
        refine r_geti X hT 15 12 fk_8_174 rfl rfl (by decide) dX8_count_76 ?_
        exact hret (i 15 12) _ _ _ _ _ _ dX8_count_79 hT hS (Or.inl ⟨rfl, (rg_c (Rg_at hR 15 12 0 0 (by decide) rfl)), (by omega)⟩)
      ·
        refine lv_tableIn (tgt := 80) (off := 79) hx hb dX8_count_1 (by omega) (by omega) (by rw [f1]; rfl) (by decide) ?_
        have h5 : rg 3 3 a_a := ⟨by omega, by omega⟩
        refine lv_aload_n hx hb dX8_count_80 rfl (lv_at hl 0 rfl) ?_
        refine r_getr X hT 0 3 15 fk_8_32 rfl rfl (by decide) dX8_count_81 ?_
        refine r_geti X hT 15 13 fk_8_156 rfl rfl (by decide) dX8_count_84 ?_
        exact hret (i 15 13) _ _ _ _ _ _ dX8_count_87 hT hS (Or.inl ⟨rfl, (rg_c (Rg_at hR 15 13 0 0 (by decide) rfl)), (by omega)⟩)
      ·
        refine lv_tableIn (tgt := 88) (off := 87) hx hb dX8_count_1 (by omega) (by omega) (by rw [f1]; rfl) (by decide) ?_
        have h6 : rg 4 4 a_a := ⟨by omega, by omega⟩
        refine lv_aload_n hx hb dX8_count_88 rfl (lv_at hl 0 rfl) ?_
        refine r_getr X hT 0 3 15 fk_8_32 rfl rfl (by decide) dX8_count_89 ?_
        refine r_geti X hT 15 14 fk_8_176 rfl rfl (by decide) dX8_count_92 ?_
        exact hret (i 15 14) _ _ _ _ _ _ dX8_count_95 hT hS (Or.inl ⟨rfl, (rg_c (Rg_at hR 15 14 0 0 (by decide) rfl)), (by omega)⟩)
      ·
        refine lv_tableIn (tgt := 96) (off := 95) hx hb dX8_count_1 (by omega) (by omega) (by rw [f1]; rfl) (by decide) ?_
        have h7 : rg 5 5 a_a := ⟨by omega, by omega⟩
        refine lv_aload_n hx hb dX8_count_96 rfl (lv_at hl 0 rfl) ?_
        refine r_getr X hT 0 3 15 fk_8_32 rfl rfl (by decide) dX8_count_97 ?_
        refine r_geti X hT 15 15 fk_8_162 rfl rfl (by decide) dX8_count_100 ?_
        exact hret (i 15 15) _ _ _ _ _ _ dX8_count_103 hT hS (Or.inl ⟨rfl, (rg_c (Rg_at hR 15 15 0 0 (by decide) rfl)), (by omega)⟩)
      ·
        refine lv_tableIn (tgt := 104) (off := 103) hx hb dX8_count_1 (by omega) (by omega) (by rw [f1]; rfl) (by decide) ?_
        have h8 : rg 6 6 a_a := ⟨by omega, by omega⟩
        refine lv_aload_n hx hb dX8_count_104 rfl (lv_at hl 0 rfl) ?_
        refine r_getr X hT 0 3 15 fk_8_32 rfl rfl (by decide) dX8_count_105 ?_
        refine r_geti X hT 15 16 fk_8_179 rfl rfl (by decide) dX8_count_108 ?_
        exact hret (i 15 16) _ _ _ _ _ _ dX8_count_111 hT hS (Or.inl ⟨rfl, (rg_c (Rg_at hR 15 16 0 0 (by decide) rfl)), (by omega)⟩)
      ·
        refine lv_tableIn (tgt := 112) (off := 111) hx hb dX8_count_1 (by omega) (by omega) (by rw [f1]; rfl) (by decide) ?_
        have h9 : rg 7 7 a_a := ⟨by omega, by omega⟩
        refine lv_aload_n hx hb dX8_count_112 rfl (lv_at hl 0 rfl) ?_
        refine r_getr X hT 0 3 15 fk_8_32 rfl rfl (by decide) dX8_count_113 ?_
        refine r_geti X hT 15 17 fk_8_118 rfl rfl (by decide) dX8_count_116 ?_
        exact hret (i 15 17) _ _ _ _ _ _ dX8_count_119 hT hS (Or.inl ⟨rfl, (rg_c (Rg_at hR 15 17 0 0 (by decide) rfl)), (by omega)⟩)
      ·
        refine lv_tableIn (tgt := 120) (off := 119) hx hb dX8_count_1 (by omega) (by omega) (by rw [f1]; rfl) (by decide) ?_
        have h10 : rg 8 8 a_a := ⟨by omega, by omega⟩
        refine lv_aload_n hx hb dX8_count_120 rfl (lv_at hl 0 rfl) ?_
        refine r_getr X hT 0 0 1 fk_8_10 rfl rfl (by decide) dX8_count_121 ?_
        refine r_geti X hT 1 1 fk_8_106 rfl rfl (by decide) dX8_count_124 ?_
        exact hret (i 1 1) _ _ _ _ _ _ dX8_count_127 hT hS (Or.inl ⟨rfl, (rg_c (Rg_at hR 1 1 0 0 (by decide) rfl)), (by omega)⟩)
      ·
        refine lv_tableIn (tgt := 128) (off := 127) hx hb dX8_count_1 (by omega) (by omega) (by rw [f1]; rfl) (by decide) ?_
        have h11 : rg 9 9 a_a := ⟨by omega, by omega⟩
        refine lv_aload_n hx hb dX8_count_128 rfl (lv_at hl 0 rfl) ?_
        refine r_getr X hT 0 6 61 fk_8_46 rfl rfl (by decide) dX8_count_129 ?_
        refine r_Vi (As := []) (rest := []) X hT hS (k_X5_filled_61 hR) mk_X5_filled gm_715 rfl rfl (by decide) hd_X5_filled ⟨rfl, rfl⟩ ⟨Nat.le_of_ble_eq_true rfl, Nat.le_of_ble_eq_true rfl⟩ hl.1 rfl (Nat.le_of_ble_eq_true rfl) dX8_count_132 ⟨Nat.zero_le _, Nat.zero_le _⟩ (fun r12 i12 g12 H locs hq hT hS => ?_)
        obtain ⟨eh12, rfl⟩ := hq
        rw [(Prod.mk.inj eh12).1, (Prod.mk.inj eh12).2] at hT
        exact hret 0 _ _ _ _ _ _ dX8_count_135 hT hS (Or.inl ⟨rfl, rfl, (by omega)⟩)

set_option maxRecDepth 100000 in
set_option maxHeartbeats 4000000 in
theorem k_X6_become_27_15 {l : Launch} {D : va_G} {h : Nat → Nat} {cz : Nat → ClassId} {i : Nat → Nat → Int32} {g : Nat → Nat → Int64} (hR : Rg rL i)  : CtV l yX6_become cX6_become 2 none ({ frames := 1, cells := 0, slots := 0, locals := 40 } : Room) D h cz i g [.ref (h 27), .ref (h 15)] (fun u => Rg rL u.1) := by
  refine k_V pn_X6_become (Nat.le_of_ble_eq_true rfl) ?_
  intro p e s m args below meth c ls Q X hret hT hl hS
  have hx := X.1
  have hb := X.2.1
  have hl : lv_has ls 2 [(0, .ref (h 27)), (1, .ref (h 15))] := hl
  refine lv_aload_n hx hb dX6_become_0 rfl (lv_at hl 0 rfl) ?_
  refine lv_aload_n hx hb dX6_become_1 rfl (lv_at hl 1 rfl) ?_
  refine r_geti X hT 15 10 fk_6_42 rfl rfl (by decide) dX6_become_2 ?_
  refine r_puti X hT hS 27 10 pk_6_42 rfl rfl rfl rfl (by decide) dX6_become_5 (fun H locs i1 ei1 hT hS => ?_)
  have hR1 := Rg_put hR ei1 0 0 rfl (Rg_at hR 15 10 0 0 (by decide) rfl) (by decide)
  refine lv_aload_n hx hb dX6_become_8 rfl (lv_at hl 0 rfl) ?_
  refine lv_aload_n hx hb dX6_become_9 rfl (lv_at hl 1 rfl) ?_
  refine r_geti X hT 15 11 fk_6_46 rfl rfl (by decide) dX6_become_10 ?_
  refine r_puti X hT hS 27 11 pk_6_46 rfl rfl rfl rfl (by decide) dX6_become_13 (fun H locs i2 ei2 hT hS => ?_)
  have hR2 := Rg_put hR1 ei2 0 0 rfl (Rg_at hR1 15 11 0 0 (by decide) rfl) (by decide)
  refine lv_aload_n hx hb dX6_become_16 rfl (lv_at hl 0 rfl) ?_
  refine lv_aload_n hx hb dX6_become_17 rfl (lv_at hl 1 rfl) ?_
  refine r_geti X hT 15 12 fk_6_49 rfl rfl (by decide) dX6_become_18 ?_
  refine r_puti X hT hS 27 12 pk_6_49 rfl rfl rfl rfl (by decide) dX6_become_21 (fun H locs i3 ei3 hT hS => ?_)
  have hR3 := Rg_put hR2 ei3 0 0 rfl (Rg_at hR2 15 12 0 0 (by decide) rfl) (by decide)
  refine lv_aload_n hx hb dX6_become_24 rfl (lv_at hl 0 rfl) ?_
  refine lv_aload_n hx hb dX6_become_25 rfl (lv_at hl 1 rfl) ?_
  refine r_geti X hT 15 13 fk_6_52 rfl rfl (by decide) dX6_become_26 ?_
  refine r_puti X hT hS 27 13 pk_6_52 rfl rfl rfl rfl (by decide) dX6_become_29 (fun H locs i4 ei4 hT hS => ?_)
  have hR4 := Rg_put hR3 ei4 0 0 rfl (Rg_at hR3 15 13 0 0 (by decide) rfl) (by decide)
  refine lv_aload_n hx hb dX6_become_32 rfl (lv_at hl 0 rfl) ?_
  refine lv_aload_n hx hb dX6_become_33 rfl (lv_at hl 1 rfl) ?_
  refine r_geti X hT 15 14 fk_6_55 rfl rfl (by decide) dX6_become_34 ?_
  refine r_puti X hT hS 27 14 pk_6_55 rfl rfl rfl rfl (by decide) dX6_become_37 (fun H locs i5 ei5 hT hS => ?_)
  have hR5 := Rg_put hR4 ei5 0 0 rfl (Rg_at hR4 15 14 0 0 (by decide) rfl) (by decide)
  refine lv_aload_n hx hb dX6_become_40 rfl (lv_at hl 0 rfl) ?_
  refine lv_aload_n hx hb dX6_become_41 rfl (lv_at hl 1 rfl) ?_
  refine r_geti X hT 15 15 fk_6_58 rfl rfl (by decide) dX6_become_42 ?_
  refine r_puti X hT hS 27 15 pk_6_58 rfl rfl rfl rfl (by decide) dX6_become_45 (fun H locs i6 ei6 hT hS => ?_)
  have hR6 := Rg_put hR5 ei6 0 0 rfl (Rg_at hR5 15 15 0 0 (by decide) rfl) (by decide)
  refine lv_aload_n hx hb dX6_become_48 rfl (lv_at hl 0 rfl) ?_
  refine lv_aload_n hx hb dX6_become_49 rfl (lv_at hl 1 rfl) ?_
  refine r_geti X hT 15 16 fk_6_61 rfl rfl (by decide) dX6_become_50 ?_
  refine r_puti X hT hS 27 16 pk_6_61 rfl rfl rfl rfl (by decide) dX6_become_53 (fun H locs i7 ei7 hT hS => ?_)
  have hR7 := Rg_put hR6 ei7 0 0 rfl (Rg_at hR6 15 16 0 0 (by decide) rfl) (by decide)
  refine lv_aload_n hx hb dX6_become_56 rfl (lv_at hl 0 rfl) ?_
  refine lv_aload_n hx hb dX6_become_57 rfl (lv_at hl 1 rfl) ?_
  refine r_geti X hT 15 17 fk_6_64 rfl rfl (by decide) dX6_become_58 ?_
  refine r_puti X hT hS 27 17 pk_6_64 rfl rfl rfl rfl (by decide) dX6_become_61 (fun H locs i8 ei8 hT hS => ?_)
  have hR8 := Rg_put hR7 ei8 0 0 rfl (Rg_at hR7 15 17 0 0 (by decide) rfl) (by decide)
  refine lv_aload_n hx hb dX6_become_64 rfl (lv_at hl 1 rfl) ?_
  refine r_getr X hT 15 0 16 fk_6_9 rfl rfl (by decide) dX6_become_65 ?_
  refine lv_iconst (v := 0) hx hb dX6_become_68 (by decide) ?_
  refine lv_aload_n hx hb dX6_become_69 rfl (lv_at hl 0 rfl) ?_
  refine r_getr X hT 27 0 28 fk_6_9 rfl rfl (by decide) dX6_become_70 ?_
  refine lv_iconst (v := 0) hx hb dX6_become_73 (by decide) ?_
  refine lv_bipush (v := 6) hx hb dX6_become_74 (by decide) ?_
  refine r_copyi X hT hS hl.1 16 28 rfl rfl (by decide) (by decide) gm_654 gm_656 gm_655 gm_123 (rg_k (by decide) : rg 0 0 0) (rg_k (by decide) : rg 0 0 0) (rg_k (by decide) : rg 6 6 6) (by decide) (Nat.le_of_ble_eq_true rfl) (by decide +kernel) dX6_become_76 (fun H locs i9 ei9 hT hS => ?_)
  have hR9 := Rg_cpy hR8 ei9 0 0 0 0 (fun _ => rfl) (fun _ => rfl) (by decide) (by decide)
  refine lv_aload_n hx hb dX6_become_79 rfl (lv_at hl 1 rfl) ?_
  refine r_getr X hT 15 1 17 fk_6_15 rfl rfl (by decide) dX6_become_80 ?_
  refine lv_iconst (v := 0) hx hb dX6_become_83 (by decide) ?_
  refine lv_aload_n hx hb dX6_become_84 rfl (lv_at hl 0 rfl) ?_
  refine r_getr X hT 27 1 29 fk_6_15 rfl rfl (by decide) dX6_become_85 ?_
  refine lv_iconst (v := 0) hx hb dX6_become_88 (by decide) ?_
  refine lv_bipush (v := 6) hx hb dX6_become_89 (by decide) ?_
  refine r_copyi X hT hS hl.1 17 29 rfl rfl (by decide) (by decide) gm_654 gm_656 gm_655 gm_123 (rg_k (by decide) : rg 0 0 0) (rg_k (by decide) : rg 0 0 0) (rg_k (by decide) : rg 6 6 6) (by decide) (Nat.le_of_ble_eq_true rfl) (by decide +kernel) dX6_become_91 (fun H locs i10 ei10 hT hS => ?_)
  have hR10 := Rg_cpy hR9 ei10 0 0 0 0 (fun _ => rfl) (fun _ => rfl) (by decide) (by decide)
  refine lv_aload_n hx hb dX6_become_94 rfl (lv_at hl 1 rfl) ?_
  refine r_getr X hT 15 2 18 fk_6_18 rfl rfl (by decide) dX6_become_95 ?_
  refine lv_iconst (v := 0) hx hb dX6_become_98 (by decide) ?_
  refine lv_aload_n hx hb dX6_become_99 rfl (lv_at hl 0 rfl) ?_
  refine r_getr X hT 27 2 30 fk_6_18 rfl rfl (by decide) dX6_become_100 ?_
  refine lv_iconst (v := 0) hx hb dX6_become_103 (by decide) ?_
  refine lv_bipush (v := 6) hx hb dX6_become_104 (by decide) ?_
  refine r_copyi X hT hS hl.1 18 30 rfl rfl (by decide) (by decide) gm_654 gm_656 gm_655 gm_123 (rg_k (by decide) : rg 0 0 0) (rg_k (by decide) : rg 0 0 0) (rg_k (by decide) : rg 6 6 6) (by decide) (Nat.le_of_ble_eq_true rfl) (by decide +kernel) dX6_become_106 (fun H locs i11 ei11 hT hS => ?_)
  have hR11 := Rg_cpy hR10 ei11 0 0 0 0 (fun _ => rfl) (fun _ => rfl) (by decide) (by decide)
  refine lv_aload_n hx hb dX6_become_109 rfl (lv_at hl 1 rfl) ?_
  refine r_getr X hT 15 3 19 fk_6_21 rfl rfl (by decide) dX6_become_110 ?_
  refine lv_iconst (v := 0) hx hb dX6_become_113 (by decide) ?_
  refine lv_aload_n hx hb dX6_become_114 rfl (lv_at hl 0 rfl) ?_
  refine r_getr X hT 27 3 31 fk_6_21 rfl rfl (by decide) dX6_become_115 ?_
  refine lv_iconst (v := 0) hx hb dX6_become_118 (by decide) ?_
  refine lv_bipush (v := 10) hx hb dX6_become_119 (by decide) ?_
  refine r_copyi X hT hS hl.1 19 31 rfl rfl (by decide) (by decide) gm_654 gm_656 gm_655 gm_123 (rg_k (by decide) : rg 0 0 0) (rg_k (by decide) : rg 0 0 0) (rg_k (by decide) : rg 10 10 10) (by decide) (Nat.le_of_ble_eq_true rfl) (by decide +kernel) dX6_become_121 (fun H locs i12 ei12 hT hS => ?_)
  have hR12 := Rg_cpy hR11 ei12 0 0 0 0 (fun _ => rfl) (fun _ => rfl) (by decide) (by decide)
  refine lv_aload_n hx hb dX6_become_124 rfl (lv_at hl 1 rfl) ?_
  refine r_getr X hT 15 4 20 fk_6_24 rfl rfl (by decide) dX6_become_125 ?_
  refine lv_iconst (v := 0) hx hb dX6_become_128 (by decide) ?_
  refine lv_aload_n hx hb dX6_become_129 rfl (lv_at hl 0 rfl) ?_
  refine r_getr X hT 27 4 32 fk_6_24 rfl rfl (by decide) dX6_become_130 ?_
  refine lv_iconst (v := 0) hx hb dX6_become_133 (by decide) ?_
  refine lv_bipush (v := 10) hx hb dX6_become_134 (by decide) ?_
  refine r_copyi X hT hS hl.1 20 32 rfl rfl (by decide) (by decide) gm_654 gm_656 gm_655 gm_123 (rg_k (by decide) : rg 0 0 0) (rg_k (by decide) : rg 0 0 0) (rg_k (by decide) : rg 10 10 10) (by decide) (Nat.le_of_ble_eq_true rfl) (by decide +kernel) dX6_become_136 (fun H locs i13 ei13 hT hS => ?_)
  have hR13 := Rg_cpy hR12 ei13 0 0 0 0 (fun _ => rfl) (fun _ => rfl) (by decide) (by decide)
  refine lv_aload_n hx hb dX6_become_139 rfl (lv_at hl 1 rfl) ?_
  refine r_getr X hT 15 5 21 fk_6_27 rfl rfl (by decide) dX6_become_140 ?_
  refine lv_iconst (v := 0) hx hb dX6_become_143 (by decide) ?_
  refine lv_aload_n hx hb dX6_become_144 rfl (lv_at hl 0 rfl) ?_
  refine r_getr X hT 27 5 33 fk_6_27 rfl rfl (by decide) dX6_become_145 ?_
  refine lv_iconst (v := 0) hx hb dX6_become_148 (by decide) ?_
  refine lv_bipush (v := 8) hx hb dX6_become_149 (by decide) ?_
  refine r_copyi X hT hS hl.1 21 33 rfl rfl (by decide) (by decide) gm_654 gm_656 gm_655 gm_123 (rg_k (by decide) : rg 0 0 0) (rg_k (by decide) : rg 0 0 0) (rg_k (by decide) : rg 8 8 8) (by decide) (Nat.le_of_ble_eq_true rfl) (by decide +kernel) dX6_become_151 (fun H locs i14 ei14 hT hS => ?_)
  have hR14 := Rg_cpy hR13 ei14 0 0 0 0 (fun _ => rfl) (fun _ => rfl) (by decide) (by decide)
  refine lv_aload_n hx hb dX6_become_154 rfl (lv_at hl 1 rfl) ?_
  refine r_getr X hT 15 6 22 fk_6_30 rfl rfl (by decide) dX6_become_155 ?_
  refine lv_iconst (v := 0) hx hb dX6_become_158 (by decide) ?_
  refine lv_aload_n hx hb dX6_become_159 rfl (lv_at hl 0 rfl) ?_
  refine r_getr X hT 27 6 34 fk_6_30 rfl rfl (by decide) dX6_become_160 ?_
  refine lv_iconst (v := 0) hx hb dX6_become_163 (by decide) ?_
  refine lv_bipush (v := 8) hx hb dX6_become_164 (by decide) ?_
  refine r_copyi X hT hS hl.1 22 34 rfl rfl (by decide) (by decide) gm_654 gm_656 gm_655 gm_123 (rg_k (by decide) : rg 0 0 0) (rg_k (by decide) : rg 0 0 0) (rg_k (by decide) : rg 8 8 8) (by decide) (Nat.le_of_ble_eq_true rfl) (by decide +kernel) dX6_become_166 (fun H locs i15 ei15 hT hS => ?_)
  have hR15 := Rg_cpy hR14 ei15 0 0 0 0 (fun _ => rfl) (fun _ => rfl) (by decide) (by decide)
  refine lv_aload_n hx hb dX6_become_169 rfl (lv_at hl 1 rfl) ?_
  refine r_getr X hT 15 7 23 fk_6_33 rfl rfl (by decide) dX6_become_170 ?_
  refine lv_iconst (v := 0) hx hb dX6_become_173 (by decide) ?_
  refine lv_aload_n hx hb dX6_become_174 rfl (lv_at hl 0 rfl) ?_
  refine r_getr X hT 27 7 35 fk_6_33 rfl rfl (by decide) dX6_become_175 ?_
  refine lv_iconst (v := 0) hx hb dX6_become_178 (by decide) ?_
  refine lv_bipush (v := 20) hx hb dX6_become_179 (by decide) ?_
  refine r_copyi X hT hS hl.1 23 35 rfl rfl (by decide) (by decide) gm_654 gm_656 gm_655 gm_123 (rg_k (by decide) : rg 0 0 0) (rg_k (by decide) : rg 0 0 0) (rg_k (by decide) : rg 20 20 20) (by decide) (Nat.le_of_ble_eq_true rfl) (by decide +kernel) dX6_become_181 (fun H locs i16 ei16 hT hS => ?_)
  have hR16 := Rg_cpy hR15 ei16 0 0 0 0 (fun _ => rfl) (fun _ => rfl) (by decide) (by decide)
  refine lv_aload_n hx hb dX6_become_184 rfl (lv_at hl 1 rfl) ?_
  refine r_getr X hT 15 8 24 fk_6_36 rfl rfl (by decide) dX6_become_185 ?_
  refine lv_iconst (v := 0) hx hb dX6_become_188 (by decide) ?_
  refine lv_aload_n hx hb dX6_become_189 rfl (lv_at hl 0 rfl) ?_
  refine r_getr X hT 27 8 36 fk_6_36 rfl rfl (by decide) dX6_become_190 ?_
  refine lv_iconst (v := 0) hx hb dX6_become_193 (by decide) ?_
  refine lv_bipush (v := 20) hx hb dX6_become_194 (by decide) ?_
  refine r_copyi X hT hS hl.1 24 36 rfl rfl (by decide) (by decide) gm_654 gm_656 gm_655 gm_123 (rg_k (by decide) : rg 0 0 0) (rg_k (by decide) : rg 0 0 0) (rg_k (by decide) : rg 20 20 20) (by decide) (Nat.le_of_ble_eq_true rfl) (by decide +kernel) dX6_become_196 (fun H locs i17 ei17 hT hS => ?_)
  have hR17 := Rg_cpy hR16 ei17 0 0 0 0 (fun _ => rfl) (fun _ => rfl) (by decide) (by decide)
  refine lv_aload_n hx hb dX6_become_199 rfl (lv_at hl 1 rfl) ?_
  refine r_getr X hT 15 9 25 fk_6_39 rfl rfl (by decide) dX6_become_200 ?_
  refine lv_iconst (v := 0) hx hb dX6_become_203 (by decide) ?_
  refine lv_aload_n hx hb dX6_become_204 rfl (lv_at hl 0 rfl) ?_
  refine r_getr X hT 27 9 37 fk_6_39 rfl rfl (by decide) dX6_become_205 ?_
  refine lv_iconst (v := 0) hx hb dX6_become_208 (by decide) ?_
  refine lv_bipush (v := 20) hx hb dX6_become_209 (by decide) ?_
  refine r_copyi X hT hS hl.1 25 37 rfl rfl (by decide) (by decide) gm_654 gm_656 gm_655 gm_123 (rg_k (by decide) : rg 0 0 0) (rg_k (by decide) : rg 0 0 0) (rg_k (by decide) : rg 20 20 20) (by decide) (Nat.le_of_ble_eq_true rfl) (by decide +kernel) dX6_become_211 (fun H locs i18 ei18 hT hS => ?_)
  have hR18 := Rg_cpy hR17 ei18 0 0 0 0 (fun _ => rfl) (fun _ => rfl) (by decide) (by decide)
  exact hret _ _ _ _ _ _ dX6_become_214 hT hS hR18

set_option maxRecDepth 100000 in
set_option maxHeartbeats 4000000 in
theorem k_X6_become_38_15 {l : Launch} {D : va_G} {h : Nat → Nat} {cz : Nat → ClassId} {i : Nat → Nat → Int32} {g : Nat → Nat → Int64} (hR : Rg rL i)  : CtV l yX6_become cX6_become 2 none ({ frames := 1, cells := 0, slots := 0, locals := 40 } : Room) D h cz i g [.ref (h 38), .ref (h 15)] (fun u => Rg rL u.1) := by
  refine k_V pn_X6_become (Nat.le_of_ble_eq_true rfl) ?_
  intro p e s m args below meth c ls Q X hret hT hl hS
  have hx := X.1
  have hb := X.2.1
  have hl : lv_has ls 2 [(0, .ref (h 38)), (1, .ref (h 15))] := hl
  refine lv_aload_n hx hb dX6_become_0 rfl (lv_at hl 0 rfl) ?_
  refine lv_aload_n hx hb dX6_become_1 rfl (lv_at hl 1 rfl) ?_
  refine r_geti X hT 15 10 fk_6_42 rfl rfl (by decide) dX6_become_2 ?_
  refine r_puti X hT hS 38 10 pk_6_42 rfl rfl rfl rfl (by decide) dX6_become_5 (fun H locs i1 ei1 hT hS => ?_)
  have hR1 := Rg_put hR ei1 0 0 rfl (Rg_at hR 15 10 0 0 (by decide) rfl) (by decide)
  refine lv_aload_n hx hb dX6_become_8 rfl (lv_at hl 0 rfl) ?_
  refine lv_aload_n hx hb dX6_become_9 rfl (lv_at hl 1 rfl) ?_
  refine r_geti X hT 15 11 fk_6_46 rfl rfl (by decide) dX6_become_10 ?_
  refine r_puti X hT hS 38 11 pk_6_46 rfl rfl rfl rfl (by decide) dX6_become_13 (fun H locs i2 ei2 hT hS => ?_)
  have hR2 := Rg_put hR1 ei2 0 0 rfl (Rg_at hR1 15 11 0 0 (by decide) rfl) (by decide)
  refine lv_aload_n hx hb dX6_become_16 rfl (lv_at hl 0 rfl) ?_
  refine lv_aload_n hx hb dX6_become_17 rfl (lv_at hl 1 rfl) ?_
  refine r_geti X hT 15 12 fk_6_49 rfl rfl (by decide) dX6_become_18 ?_
  refine r_puti X hT hS 38 12 pk_6_49 rfl rfl rfl rfl (by decide) dX6_become_21 (fun H locs i3 ei3 hT hS => ?_)
  have hR3 := Rg_put hR2 ei3 0 0 rfl (Rg_at hR2 15 12 0 0 (by decide) rfl) (by decide)
  refine lv_aload_n hx hb dX6_become_24 rfl (lv_at hl 0 rfl) ?_
  refine lv_aload_n hx hb dX6_become_25 rfl (lv_at hl 1 rfl) ?_
  refine r_geti X hT 15 13 fk_6_52 rfl rfl (by decide) dX6_become_26 ?_
  refine r_puti X hT hS 38 13 pk_6_52 rfl rfl rfl rfl (by decide) dX6_become_29 (fun H locs i4 ei4 hT hS => ?_)
  have hR4 := Rg_put hR3 ei4 0 0 rfl (Rg_at hR3 15 13 0 0 (by decide) rfl) (by decide)
  refine lv_aload_n hx hb dX6_become_32 rfl (lv_at hl 0 rfl) ?_
  refine lv_aload_n hx hb dX6_become_33 rfl (lv_at hl 1 rfl) ?_
  refine r_geti X hT 15 14 fk_6_55 rfl rfl (by decide) dX6_become_34 ?_
  refine r_puti X hT hS 38 14 pk_6_55 rfl rfl rfl rfl (by decide) dX6_become_37 (fun H locs i5 ei5 hT hS => ?_)
  have hR5 := Rg_put hR4 ei5 0 0 rfl (Rg_at hR4 15 14 0 0 (by decide) rfl) (by decide)
  refine lv_aload_n hx hb dX6_become_40 rfl (lv_at hl 0 rfl) ?_
  refine lv_aload_n hx hb dX6_become_41 rfl (lv_at hl 1 rfl) ?_
  refine r_geti X hT 15 15 fk_6_58 rfl rfl (by decide) dX6_become_42 ?_
  refine r_puti X hT hS 38 15 pk_6_58 rfl rfl rfl rfl (by decide) dX6_become_45 (fun H locs i6 ei6 hT hS => ?_)
  have hR6 := Rg_put hR5 ei6 0 0 rfl (Rg_at hR5 15 15 0 0 (by decide) rfl) (by decide)
  refine lv_aload_n hx hb dX6_become_48 rfl (lv_at hl 0 rfl) ?_
  refine lv_aload_n hx hb dX6_become_49 rfl (lv_at hl 1 rfl) ?_
  refine r_geti X hT 15 16 fk_6_61 rfl rfl (by decide) dX6_become_50 ?_
  refine r_puti X hT hS 38 16 pk_6_61 rfl rfl rfl rfl (by decide) dX6_become_53 (fun H locs i7 ei7 hT hS => ?_)
  have hR7 := Rg_put hR6 ei7 0 0 rfl (Rg_at hR6 15 16 0 0 (by decide) rfl) (by decide)
  refine lv_aload_n hx hb dX6_become_56 rfl (lv_at hl 0 rfl) ?_
  refine lv_aload_n hx hb dX6_become_57 rfl (lv_at hl 1 rfl) ?_
  refine r_geti X hT 15 17 fk_6_64 rfl rfl (by decide) dX6_become_58 ?_
  refine r_puti X hT hS 38 17 pk_6_64 rfl rfl rfl rfl (by decide) dX6_become_61 (fun H locs i8 ei8 hT hS => ?_)
  have hR8 := Rg_put hR7 ei8 0 0 rfl (Rg_at hR7 15 17 0 0 (by decide) rfl) (by decide)
  refine lv_aload_n hx hb dX6_become_64 rfl (lv_at hl 1 rfl) ?_
  refine r_getr X hT 15 0 16 fk_6_9 rfl rfl (by decide) dX6_become_65 ?_
  refine lv_iconst (v := 0) hx hb dX6_become_68 (by decide) ?_
  refine lv_aload_n hx hb dX6_become_69 rfl (lv_at hl 0 rfl) ?_
  refine r_getr X hT 38 0 39 fk_6_9 rfl rfl (by decide) dX6_become_70 ?_
  refine lv_iconst (v := 0) hx hb dX6_become_73 (by decide) ?_
  refine lv_bipush (v := 6) hx hb dX6_become_74 (by decide) ?_
  refine r_copyi X hT hS hl.1 16 39 rfl rfl (by decide) (by decide) gm_654 gm_656 gm_655 gm_123 (rg_k (by decide) : rg 0 0 0) (rg_k (by decide) : rg 0 0 0) (rg_k (by decide) : rg 6 6 6) (by decide) (Nat.le_of_ble_eq_true rfl) (by decide +kernel) dX6_become_76 (fun H locs i9 ei9 hT hS => ?_)
  have hR9 := Rg_cpy hR8 ei9 0 0 0 0 (fun _ => rfl) (fun _ => rfl) (by decide) (by decide)
  refine lv_aload_n hx hb dX6_become_79 rfl (lv_at hl 1 rfl) ?_
  refine r_getr X hT 15 1 17 fk_6_15 rfl rfl (by decide) dX6_become_80 ?_
  refine lv_iconst (v := 0) hx hb dX6_become_83 (by decide) ?_
  refine lv_aload_n hx hb dX6_become_84 rfl (lv_at hl 0 rfl) ?_
  refine r_getr X hT 38 1 40 fk_6_15 rfl rfl (by decide) dX6_become_85 ?_
  refine lv_iconst (v := 0) hx hb dX6_become_88 (by decide) ?_
  refine lv_bipush (v := 6) hx hb dX6_become_89 (by decide) ?_
  refine r_copyi X hT hS hl.1 17 40 rfl rfl (by decide) (by decide) gm_654 gm_656 gm_655 gm_123 (rg_k (by decide) : rg 0 0 0) (rg_k (by decide) : rg 0 0 0) (rg_k (by decide) : rg 6 6 6) (by decide) (Nat.le_of_ble_eq_true rfl) (by decide +kernel) dX6_become_91 (fun H locs i10 ei10 hT hS => ?_)
  have hR10 := Rg_cpy hR9 ei10 0 0 0 0 (fun _ => rfl) (fun _ => rfl) (by decide) (by decide)
  refine lv_aload_n hx hb dX6_become_94 rfl (lv_at hl 1 rfl) ?_
  refine r_getr X hT 15 2 18 fk_6_18 rfl rfl (by decide) dX6_become_95 ?_
  refine lv_iconst (v := 0) hx hb dX6_become_98 (by decide) ?_
  refine lv_aload_n hx hb dX6_become_99 rfl (lv_at hl 0 rfl) ?_
  refine r_getr X hT 38 2 41 fk_6_18 rfl rfl (by decide) dX6_become_100 ?_
  refine lv_iconst (v := 0) hx hb dX6_become_103 (by decide) ?_
  refine lv_bipush (v := 6) hx hb dX6_become_104 (by decide) ?_
  refine r_copyi X hT hS hl.1 18 41 rfl rfl (by decide) (by decide) gm_654 gm_656 gm_655 gm_123 (rg_k (by decide) : rg 0 0 0) (rg_k (by decide) : rg 0 0 0) (rg_k (by decide) : rg 6 6 6) (by decide) (Nat.le_of_ble_eq_true rfl) (by decide +kernel) dX6_become_106 (fun H locs i11 ei11 hT hS => ?_)
  have hR11 := Rg_cpy hR10 ei11 0 0 0 0 (fun _ => rfl) (fun _ => rfl) (by decide) (by decide)
  refine lv_aload_n hx hb dX6_become_109 rfl (lv_at hl 1 rfl) ?_
  refine r_getr X hT 15 3 19 fk_6_21 rfl rfl (by decide) dX6_become_110 ?_
  refine lv_iconst (v := 0) hx hb dX6_become_113 (by decide) ?_
  refine lv_aload_n hx hb dX6_become_114 rfl (lv_at hl 0 rfl) ?_
  refine r_getr X hT 38 3 42 fk_6_21 rfl rfl (by decide) dX6_become_115 ?_
  refine lv_iconst (v := 0) hx hb dX6_become_118 (by decide) ?_
  refine lv_bipush (v := 10) hx hb dX6_become_119 (by decide) ?_
  refine r_copyi X hT hS hl.1 19 42 rfl rfl (by decide) (by decide) gm_654 gm_656 gm_655 gm_123 (rg_k (by decide) : rg 0 0 0) (rg_k (by decide) : rg 0 0 0) (rg_k (by decide) : rg 10 10 10) (by decide) (Nat.le_of_ble_eq_true rfl) (by decide +kernel) dX6_become_121 (fun H locs i12 ei12 hT hS => ?_)
  have hR12 := Rg_cpy hR11 ei12 0 0 0 0 (fun _ => rfl) (fun _ => rfl) (by decide) (by decide)
  refine lv_aload_n hx hb dX6_become_124 rfl (lv_at hl 1 rfl) ?_
  refine r_getr X hT 15 4 20 fk_6_24 rfl rfl (by decide) dX6_become_125 ?_
  refine lv_iconst (v := 0) hx hb dX6_become_128 (by decide) ?_
  refine lv_aload_n hx hb dX6_become_129 rfl (lv_at hl 0 rfl) ?_
  refine r_getr X hT 38 4 43 fk_6_24 rfl rfl (by decide) dX6_become_130 ?_
  refine lv_iconst (v := 0) hx hb dX6_become_133 (by decide) ?_
  refine lv_bipush (v := 10) hx hb dX6_become_134 (by decide) ?_
  refine r_copyi X hT hS hl.1 20 43 rfl rfl (by decide) (by decide) gm_654 gm_656 gm_655 gm_123 (rg_k (by decide) : rg 0 0 0) (rg_k (by decide) : rg 0 0 0) (rg_k (by decide) : rg 10 10 10) (by decide) (Nat.le_of_ble_eq_true rfl) (by decide +kernel) dX6_become_136 (fun H locs i13 ei13 hT hS => ?_)
  have hR13 := Rg_cpy hR12 ei13 0 0 0 0 (fun _ => rfl) (fun _ => rfl) (by decide) (by decide)
  refine lv_aload_n hx hb dX6_become_139 rfl (lv_at hl 1 rfl) ?_
  refine r_getr X hT 15 5 21 fk_6_27 rfl rfl (by decide) dX6_become_140 ?_
  refine lv_iconst (v := 0) hx hb dX6_become_143 (by decide) ?_
  refine lv_aload_n hx hb dX6_become_144 rfl (lv_at hl 0 rfl) ?_
  refine r_getr X hT 38 5 44 fk_6_27 rfl rfl (by decide) dX6_become_145 ?_
  refine lv_iconst (v := 0) hx hb dX6_become_148 (by decide) ?_
  refine lv_bipush (v := 8) hx hb dX6_become_149 (by decide) ?_
  refine r_copyi X hT hS hl.1 21 44 rfl rfl (by decide) (by decide) gm_654 gm_656 gm_655 gm_123 (rg_k (by decide) : rg 0 0 0) (rg_k (by decide) : rg 0 0 0) (rg_k (by decide) : rg 8 8 8) (by decide) (Nat.le_of_ble_eq_true rfl) (by decide +kernel) dX6_become_151 (fun H locs i14 ei14 hT hS => ?_)
  have hR14 := Rg_cpy hR13 ei14 0 0 0 0 (fun _ => rfl) (fun _ => rfl) (by decide) (by decide)
  refine lv_aload_n hx hb dX6_become_154 rfl (lv_at hl 1 rfl) ?_
  refine r_getr X hT 15 6 22 fk_6_30 rfl rfl (by decide) dX6_become_155 ?_
  refine lv_iconst (v := 0) hx hb dX6_become_158 (by decide) ?_
  refine lv_aload_n hx hb dX6_become_159 rfl (lv_at hl 0 rfl) ?_
  refine r_getr X hT 38 6 45 fk_6_30 rfl rfl (by decide) dX6_become_160 ?_
  refine lv_iconst (v := 0) hx hb dX6_become_163 (by decide) ?_
  refine lv_bipush (v := 8) hx hb dX6_become_164 (by decide) ?_
  refine r_copyi X hT hS hl.1 22 45 rfl rfl (by decide) (by decide) gm_654 gm_656 gm_655 gm_123 (rg_k (by decide) : rg 0 0 0) (rg_k (by decide) : rg 0 0 0) (rg_k (by decide) : rg 8 8 8) (by decide) (Nat.le_of_ble_eq_true rfl) (by decide +kernel) dX6_become_166 (fun H locs i15 ei15 hT hS => ?_)
  have hR15 := Rg_cpy hR14 ei15 0 0 0 0 (fun _ => rfl) (fun _ => rfl) (by decide) (by decide)
  refine lv_aload_n hx hb dX6_become_169 rfl (lv_at hl 1 rfl) ?_
  refine r_getr X hT 15 7 23 fk_6_33 rfl rfl (by decide) dX6_become_170 ?_
  refine lv_iconst (v := 0) hx hb dX6_become_173 (by decide) ?_
  refine lv_aload_n hx hb dX6_become_174 rfl (lv_at hl 0 rfl) ?_
  refine r_getr X hT 38 7 46 fk_6_33 rfl rfl (by decide) dX6_become_175 ?_
  refine lv_iconst (v := 0) hx hb dX6_become_178 (by decide) ?_
  refine lv_bipush (v := 20) hx hb dX6_become_179 (by decide) ?_
  refine r_copyi X hT hS hl.1 23 46 rfl rfl (by decide) (by decide) gm_654 gm_656 gm_655 gm_123 (rg_k (by decide) : rg 0 0 0) (rg_k (by decide) : rg 0 0 0) (rg_k (by decide) : rg 20 20 20) (by decide) (Nat.le_of_ble_eq_true rfl) (by decide +kernel) dX6_become_181 (fun H locs i16 ei16 hT hS => ?_)
  have hR16 := Rg_cpy hR15 ei16 0 0 0 0 (fun _ => rfl) (fun _ => rfl) (by decide) (by decide)
  refine lv_aload_n hx hb dX6_become_184 rfl (lv_at hl 1 rfl) ?_
  refine r_getr X hT 15 8 24 fk_6_36 rfl rfl (by decide) dX6_become_185 ?_
  refine lv_iconst (v := 0) hx hb dX6_become_188 (by decide) ?_
  refine lv_aload_n hx hb dX6_become_189 rfl (lv_at hl 0 rfl) ?_
  refine r_getr X hT 38 8 47 fk_6_36 rfl rfl (by decide) dX6_become_190 ?_
  refine lv_iconst (v := 0) hx hb dX6_become_193 (by decide) ?_
  refine lv_bipush (v := 20) hx hb dX6_become_194 (by decide) ?_
  refine r_copyi X hT hS hl.1 24 47 rfl rfl (by decide) (by decide) gm_654 gm_656 gm_655 gm_123 (rg_k (by decide) : rg 0 0 0) (rg_k (by decide) : rg 0 0 0) (rg_k (by decide) : rg 20 20 20) (by decide) (Nat.le_of_ble_eq_true rfl) (by decide +kernel) dX6_become_196 (fun H locs i17 ei17 hT hS => ?_)
  have hR17 := Rg_cpy hR16 ei17 0 0 0 0 (fun _ => rfl) (fun _ => rfl) (by decide) (by decide)
  refine lv_aload_n hx hb dX6_become_199 rfl (lv_at hl 1 rfl) ?_
  refine r_getr X hT 15 9 25 fk_6_39 rfl rfl (by decide) dX6_become_200 ?_
  refine lv_iconst (v := 0) hx hb dX6_become_203 (by decide) ?_
  refine lv_aload_n hx hb dX6_become_204 rfl (lv_at hl 0 rfl) ?_
  refine r_getr X hT 38 9 48 fk_6_39 rfl rfl (by decide) dX6_become_205 ?_
  refine lv_iconst (v := 0) hx hb dX6_become_208 (by decide) ?_
  refine lv_bipush (v := 20) hx hb dX6_become_209 (by decide) ?_
  refine r_copyi X hT hS hl.1 25 48 rfl rfl (by decide) (by decide) gm_654 gm_656 gm_655 gm_123 (rg_k (by decide) : rg 0 0 0) (rg_k (by decide) : rg 0 0 0) (rg_k (by decide) : rg 20 20 20) (by decide) (Nat.le_of_ble_eq_true rfl) (by decide +kernel) dX6_become_211 (fun H locs i18 ei18 hT hS => ?_)
  have hR18 := Rg_cpy hR17 ei18 0 0 0 0 (fun _ => rfl) (fun _ => rfl) (by decide) (by decide)
  exact hret _ _ _ _ _ _ dX6_become_214 hT hS hR18

set_option maxRecDepth 100000 in
set_option maxHeartbeats 4000000 in
theorem k_X6_become_49_15 {l : Launch} {D : va_G} {h : Nat → Nat} {cz : Nat → ClassId} {i : Nat → Nat → Int32} {g : Nat → Nat → Int64} (hR : Rg rL i)  : CtV l yX6_become cX6_become 2 none ({ frames := 1, cells := 0, slots := 0, locals := 40 } : Room) D h cz i g [.ref (h 49), .ref (h 15)] (fun u => Rg rL u.1) := by
  refine k_V pn_X6_become (Nat.le_of_ble_eq_true rfl) ?_
  intro p e s m args below meth c ls Q X hret hT hl hS
  have hx := X.1
  have hb := X.2.1
  have hl : lv_has ls 2 [(0, .ref (h 49)), (1, .ref (h 15))] := hl
  refine lv_aload_n hx hb dX6_become_0 rfl (lv_at hl 0 rfl) ?_
  refine lv_aload_n hx hb dX6_become_1 rfl (lv_at hl 1 rfl) ?_
  refine r_geti X hT 15 10 fk_6_42 rfl rfl (by decide) dX6_become_2 ?_
  refine r_puti X hT hS 49 10 pk_6_42 rfl rfl rfl rfl (by decide) dX6_become_5 (fun H locs i1 ei1 hT hS => ?_)
  have hR1 := Rg_put hR ei1 0 0 rfl (Rg_at hR 15 10 0 0 (by decide) rfl) (by decide)
  refine lv_aload_n hx hb dX6_become_8 rfl (lv_at hl 0 rfl) ?_
  refine lv_aload_n hx hb dX6_become_9 rfl (lv_at hl 1 rfl) ?_
  refine r_geti X hT 15 11 fk_6_46 rfl rfl (by decide) dX6_become_10 ?_
  refine r_puti X hT hS 49 11 pk_6_46 rfl rfl rfl rfl (by decide) dX6_become_13 (fun H locs i2 ei2 hT hS => ?_)
  have hR2 := Rg_put hR1 ei2 0 0 rfl (Rg_at hR1 15 11 0 0 (by decide) rfl) (by decide)
  refine lv_aload_n hx hb dX6_become_16 rfl (lv_at hl 0 rfl) ?_
  refine lv_aload_n hx hb dX6_become_17 rfl (lv_at hl 1 rfl) ?_
  refine r_geti X hT 15 12 fk_6_49 rfl rfl (by decide) dX6_become_18 ?_
  refine r_puti X hT hS 49 12 pk_6_49 rfl rfl rfl rfl (by decide) dX6_become_21 (fun H locs i3 ei3 hT hS => ?_)
  have hR3 := Rg_put hR2 ei3 0 0 rfl (Rg_at hR2 15 12 0 0 (by decide) rfl) (by decide)
  refine lv_aload_n hx hb dX6_become_24 rfl (lv_at hl 0 rfl) ?_
  refine lv_aload_n hx hb dX6_become_25 rfl (lv_at hl 1 rfl) ?_
  refine r_geti X hT 15 13 fk_6_52 rfl rfl (by decide) dX6_become_26 ?_
  refine r_puti X hT hS 49 13 pk_6_52 rfl rfl rfl rfl (by decide) dX6_become_29 (fun H locs i4 ei4 hT hS => ?_)
  have hR4 := Rg_put hR3 ei4 0 0 rfl (Rg_at hR3 15 13 0 0 (by decide) rfl) (by decide)
  refine lv_aload_n hx hb dX6_become_32 rfl (lv_at hl 0 rfl) ?_
  refine lv_aload_n hx hb dX6_become_33 rfl (lv_at hl 1 rfl) ?_
  refine r_geti X hT 15 14 fk_6_55 rfl rfl (by decide) dX6_become_34 ?_
  refine r_puti X hT hS 49 14 pk_6_55 rfl rfl rfl rfl (by decide) dX6_become_37 (fun H locs i5 ei5 hT hS => ?_)
  have hR5 := Rg_put hR4 ei5 0 0 rfl (Rg_at hR4 15 14 0 0 (by decide) rfl) (by decide)
  refine lv_aload_n hx hb dX6_become_40 rfl (lv_at hl 0 rfl) ?_
  refine lv_aload_n hx hb dX6_become_41 rfl (lv_at hl 1 rfl) ?_
  refine r_geti X hT 15 15 fk_6_58 rfl rfl (by decide) dX6_become_42 ?_
  refine r_puti X hT hS 49 15 pk_6_58 rfl rfl rfl rfl (by decide) dX6_become_45 (fun H locs i6 ei6 hT hS => ?_)
  have hR6 := Rg_put hR5 ei6 0 0 rfl (Rg_at hR5 15 15 0 0 (by decide) rfl) (by decide)
  refine lv_aload_n hx hb dX6_become_48 rfl (lv_at hl 0 rfl) ?_
  refine lv_aload_n hx hb dX6_become_49 rfl (lv_at hl 1 rfl) ?_
  refine r_geti X hT 15 16 fk_6_61 rfl rfl (by decide) dX6_become_50 ?_
  refine r_puti X hT hS 49 16 pk_6_61 rfl rfl rfl rfl (by decide) dX6_become_53 (fun H locs i7 ei7 hT hS => ?_)
  have hR7 := Rg_put hR6 ei7 0 0 rfl (Rg_at hR6 15 16 0 0 (by decide) rfl) (by decide)
  refine lv_aload_n hx hb dX6_become_56 rfl (lv_at hl 0 rfl) ?_
  refine lv_aload_n hx hb dX6_become_57 rfl (lv_at hl 1 rfl) ?_
  refine r_geti X hT 15 17 fk_6_64 rfl rfl (by decide) dX6_become_58 ?_
  refine r_puti X hT hS 49 17 pk_6_64 rfl rfl rfl rfl (by decide) dX6_become_61 (fun H locs i8 ei8 hT hS => ?_)
  have hR8 := Rg_put hR7 ei8 0 0 rfl (Rg_at hR7 15 17 0 0 (by decide) rfl) (by decide)
  refine lv_aload_n hx hb dX6_become_64 rfl (lv_at hl 1 rfl) ?_
  refine r_getr X hT 15 0 16 fk_6_9 rfl rfl (by decide) dX6_become_65 ?_
  refine lv_iconst (v := 0) hx hb dX6_become_68 (by decide) ?_
  refine lv_aload_n hx hb dX6_become_69 rfl (lv_at hl 0 rfl) ?_
  refine r_getr X hT 49 0 50 fk_6_9 rfl rfl (by decide) dX6_become_70 ?_
  refine lv_iconst (v := 0) hx hb dX6_become_73 (by decide) ?_
  refine lv_bipush (v := 6) hx hb dX6_become_74 (by decide) ?_
  refine r_copyi X hT hS hl.1 16 50 rfl rfl (by decide) (by decide) gm_654 gm_656 gm_655 gm_123 (rg_k (by decide) : rg 0 0 0) (rg_k (by decide) : rg 0 0 0) (rg_k (by decide) : rg 6 6 6) (by decide) (Nat.le_of_ble_eq_true rfl) (by decide +kernel) dX6_become_76 (fun H locs i9 ei9 hT hS => ?_)
  have hR9 := Rg_cpy hR8 ei9 0 0 0 0 (fun _ => rfl) (fun _ => rfl) (by decide) (by decide)
  refine lv_aload_n hx hb dX6_become_79 rfl (lv_at hl 1 rfl) ?_
  refine r_getr X hT 15 1 17 fk_6_15 rfl rfl (by decide) dX6_become_80 ?_
  refine lv_iconst (v := 0) hx hb dX6_become_83 (by decide) ?_
  refine lv_aload_n hx hb dX6_become_84 rfl (lv_at hl 0 rfl) ?_
  refine r_getr X hT 49 1 51 fk_6_15 rfl rfl (by decide) dX6_become_85 ?_
  refine lv_iconst (v := 0) hx hb dX6_become_88 (by decide) ?_
  refine lv_bipush (v := 6) hx hb dX6_become_89 (by decide) ?_
  refine r_copyi X hT hS hl.1 17 51 rfl rfl (by decide) (by decide) gm_654 gm_656 gm_655 gm_123 (rg_k (by decide) : rg 0 0 0) (rg_k (by decide) : rg 0 0 0) (rg_k (by decide) : rg 6 6 6) (by decide) (Nat.le_of_ble_eq_true rfl) (by decide +kernel) dX6_become_91 (fun H locs i10 ei10 hT hS => ?_)
  have hR10 := Rg_cpy hR9 ei10 0 0 0 0 (fun _ => rfl) (fun _ => rfl) (by decide) (by decide)
  refine lv_aload_n hx hb dX6_become_94 rfl (lv_at hl 1 rfl) ?_
  refine r_getr X hT 15 2 18 fk_6_18 rfl rfl (by decide) dX6_become_95 ?_
  refine lv_iconst (v := 0) hx hb dX6_become_98 (by decide) ?_
  refine lv_aload_n hx hb dX6_become_99 rfl (lv_at hl 0 rfl) ?_
  refine r_getr X hT 49 2 52 fk_6_18 rfl rfl (by decide) dX6_become_100 ?_
  refine lv_iconst (v := 0) hx hb dX6_become_103 (by decide) ?_
  refine lv_bipush (v := 6) hx hb dX6_become_104 (by decide) ?_
  refine r_copyi X hT hS hl.1 18 52 rfl rfl (by decide) (by decide) gm_654 gm_656 gm_655 gm_123 (rg_k (by decide) : rg 0 0 0) (rg_k (by decide) : rg 0 0 0) (rg_k (by decide) : rg 6 6 6) (by decide) (Nat.le_of_ble_eq_true rfl) (by decide +kernel) dX6_become_106 (fun H locs i11 ei11 hT hS => ?_)
  have hR11 := Rg_cpy hR10 ei11 0 0 0 0 (fun _ => rfl) (fun _ => rfl) (by decide) (by decide)
  refine lv_aload_n hx hb dX6_become_109 rfl (lv_at hl 1 rfl) ?_
  refine r_getr X hT 15 3 19 fk_6_21 rfl rfl (by decide) dX6_become_110 ?_
  refine lv_iconst (v := 0) hx hb dX6_become_113 (by decide) ?_
  refine lv_aload_n hx hb dX6_become_114 rfl (lv_at hl 0 rfl) ?_
  refine r_getr X hT 49 3 53 fk_6_21 rfl rfl (by decide) dX6_become_115 ?_
  refine lv_iconst (v := 0) hx hb dX6_become_118 (by decide) ?_
  refine lv_bipush (v := 10) hx hb dX6_become_119 (by decide) ?_
  refine r_copyi X hT hS hl.1 19 53 rfl rfl (by decide) (by decide) gm_654 gm_656 gm_655 gm_123 (rg_k (by decide) : rg 0 0 0) (rg_k (by decide) : rg 0 0 0) (rg_k (by decide) : rg 10 10 10) (by decide) (Nat.le_of_ble_eq_true rfl) (by decide +kernel) dX6_become_121 (fun H locs i12 ei12 hT hS => ?_)
  have hR12 := Rg_cpy hR11 ei12 0 0 0 0 (fun _ => rfl) (fun _ => rfl) (by decide) (by decide)
  refine lv_aload_n hx hb dX6_become_124 rfl (lv_at hl 1 rfl) ?_
  refine r_getr X hT 15 4 20 fk_6_24 rfl rfl (by decide) dX6_become_125 ?_
  refine lv_iconst (v := 0) hx hb dX6_become_128 (by decide) ?_
  refine lv_aload_n hx hb dX6_become_129 rfl (lv_at hl 0 rfl) ?_
  refine r_getr X hT 49 4 54 fk_6_24 rfl rfl (by decide) dX6_become_130 ?_
  refine lv_iconst (v := 0) hx hb dX6_become_133 (by decide) ?_
  refine lv_bipush (v := 10) hx hb dX6_become_134 (by decide) ?_
  refine r_copyi X hT hS hl.1 20 54 rfl rfl (by decide) (by decide) gm_654 gm_656 gm_655 gm_123 (rg_k (by decide) : rg 0 0 0) (rg_k (by decide) : rg 0 0 0) (rg_k (by decide) : rg 10 10 10) (by decide) (Nat.le_of_ble_eq_true rfl) (by decide +kernel) dX6_become_136 (fun H locs i13 ei13 hT hS => ?_)
  have hR13 := Rg_cpy hR12 ei13 0 0 0 0 (fun _ => rfl) (fun _ => rfl) (by decide) (by decide)
  refine lv_aload_n hx hb dX6_become_139 rfl (lv_at hl 1 rfl) ?_
  refine r_getr X hT 15 5 21 fk_6_27 rfl rfl (by decide) dX6_become_140 ?_
  refine lv_iconst (v := 0) hx hb dX6_become_143 (by decide) ?_
  refine lv_aload_n hx hb dX6_become_144 rfl (lv_at hl 0 rfl) ?_
  refine r_getr X hT 49 5 55 fk_6_27 rfl rfl (by decide) dX6_become_145 ?_
  refine lv_iconst (v := 0) hx hb dX6_become_148 (by decide) ?_
  refine lv_bipush (v := 8) hx hb dX6_become_149 (by decide) ?_
  refine r_copyi X hT hS hl.1 21 55 rfl rfl (by decide) (by decide) gm_654 gm_656 gm_655 gm_123 (rg_k (by decide) : rg 0 0 0) (rg_k (by decide) : rg 0 0 0) (rg_k (by decide) : rg 8 8 8) (by decide) (Nat.le_of_ble_eq_true rfl) (by decide +kernel) dX6_become_151 (fun H locs i14 ei14 hT hS => ?_)
  have hR14 := Rg_cpy hR13 ei14 0 0 0 0 (fun _ => rfl) (fun _ => rfl) (by decide) (by decide)
  refine lv_aload_n hx hb dX6_become_154 rfl (lv_at hl 1 rfl) ?_
  refine r_getr X hT 15 6 22 fk_6_30 rfl rfl (by decide) dX6_become_155 ?_
  refine lv_iconst (v := 0) hx hb dX6_become_158 (by decide) ?_
  refine lv_aload_n hx hb dX6_become_159 rfl (lv_at hl 0 rfl) ?_
  refine r_getr X hT 49 6 56 fk_6_30 rfl rfl (by decide) dX6_become_160 ?_
  refine lv_iconst (v := 0) hx hb dX6_become_163 (by decide) ?_
  refine lv_bipush (v := 8) hx hb dX6_become_164 (by decide) ?_
  refine r_copyi X hT hS hl.1 22 56 rfl rfl (by decide) (by decide) gm_654 gm_656 gm_655 gm_123 (rg_k (by decide) : rg 0 0 0) (rg_k (by decide) : rg 0 0 0) (rg_k (by decide) : rg 8 8 8) (by decide) (Nat.le_of_ble_eq_true rfl) (by decide +kernel) dX6_become_166 (fun H locs i15 ei15 hT hS => ?_)
  have hR15 := Rg_cpy hR14 ei15 0 0 0 0 (fun _ => rfl) (fun _ => rfl) (by decide) (by decide)
  refine lv_aload_n hx hb dX6_become_169 rfl (lv_at hl 1 rfl) ?_
  refine r_getr X hT 15 7 23 fk_6_33 rfl rfl (by decide) dX6_become_170 ?_
  refine lv_iconst (v := 0) hx hb dX6_become_173 (by decide) ?_
  refine lv_aload_n hx hb dX6_become_174 rfl (lv_at hl 0 rfl) ?_
  refine r_getr X hT 49 7 57 fk_6_33 rfl rfl (by decide) dX6_become_175 ?_
  refine lv_iconst (v := 0) hx hb dX6_become_178 (by decide) ?_
  refine lv_bipush (v := 20) hx hb dX6_become_179 (by decide) ?_
  refine r_copyi X hT hS hl.1 23 57 rfl rfl (by decide) (by decide) gm_654 gm_656 gm_655 gm_123 (rg_k (by decide) : rg 0 0 0) (rg_k (by decide) : rg 0 0 0) (rg_k (by decide) : rg 20 20 20) (by decide) (Nat.le_of_ble_eq_true rfl) (by decide +kernel) dX6_become_181 (fun H locs i16 ei16 hT hS => ?_)
  have hR16 := Rg_cpy hR15 ei16 0 0 0 0 (fun _ => rfl) (fun _ => rfl) (by decide) (by decide)
  refine lv_aload_n hx hb dX6_become_184 rfl (lv_at hl 1 rfl) ?_
  refine r_getr X hT 15 8 24 fk_6_36 rfl rfl (by decide) dX6_become_185 ?_
  refine lv_iconst (v := 0) hx hb dX6_become_188 (by decide) ?_
  refine lv_aload_n hx hb dX6_become_189 rfl (lv_at hl 0 rfl) ?_
  refine r_getr X hT 49 8 58 fk_6_36 rfl rfl (by decide) dX6_become_190 ?_
  refine lv_iconst (v := 0) hx hb dX6_become_193 (by decide) ?_
  refine lv_bipush (v := 20) hx hb dX6_become_194 (by decide) ?_
  refine r_copyi X hT hS hl.1 24 58 rfl rfl (by decide) (by decide) gm_654 gm_656 gm_655 gm_123 (rg_k (by decide) : rg 0 0 0) (rg_k (by decide) : rg 0 0 0) (rg_k (by decide) : rg 20 20 20) (by decide) (Nat.le_of_ble_eq_true rfl) (by decide +kernel) dX6_become_196 (fun H locs i17 ei17 hT hS => ?_)
  have hR17 := Rg_cpy hR16 ei17 0 0 0 0 (fun _ => rfl) (fun _ => rfl) (by decide) (by decide)
  refine lv_aload_n hx hb dX6_become_199 rfl (lv_at hl 1 rfl) ?_
  refine r_getr X hT 15 9 25 fk_6_39 rfl rfl (by decide) dX6_become_200 ?_
  refine lv_iconst (v := 0) hx hb dX6_become_203 (by decide) ?_
  refine lv_aload_n hx hb dX6_become_204 rfl (lv_at hl 0 rfl) ?_
  refine r_getr X hT 49 9 59 fk_6_39 rfl rfl (by decide) dX6_become_205 ?_
  refine lv_iconst (v := 0) hx hb dX6_become_208 (by decide) ?_
  refine lv_bipush (v := 20) hx hb dX6_become_209 (by decide) ?_
  refine r_copyi X hT hS hl.1 25 59 rfl rfl (by decide) (by decide) gm_654 gm_656 gm_655 gm_123 (rg_k (by decide) : rg 0 0 0) (rg_k (by decide) : rg 0 0 0) (rg_k (by decide) : rg 20 20 20) (by decide) (Nat.le_of_ble_eq_true rfl) (by decide +kernel) dX6_become_211 (fun H locs i18 ei18 hT hS => ?_)
  have hR18 := Rg_cpy hR17 ei18 0 0 0 0 (fun _ => rfl) (fun _ => rfl) (by decide) (by decide)
  exact hret _ _ _ _ _ _ dX6_become_214 hT hS hR18

set_option maxRecDepth 100000 in
set_option maxHeartbeats 4000000 in
theorem k_X8_image {l : Launch} {D : va_G} {h : Nat → Nat} {cz : Nat → ClassId} {i : Nat → Nat → Int32} {g : Nat → Nat → Int64} (hR : Rg rL i) (a_a : Int32) : CtI l yX8_image cX8_image 2 (some .int) ({ frames := 2, cells := 0, slots := 0, locals := 61 } : Room) D h cz i g [.ref (h 0), .int a_a] (fun r u => (Rg rL u.1 ∧ r = 0 ∧ rg 0 2 a_a) ∨ (Rg rL u.1 ∧ r = (-2) ∧ (a_a.toInt < 0 ∨ 2 < a_a.toInt))) := by
  refine k_I pn_X8_image (Nat.le_of_ble_eq_true rfl) ?_
  intro p e s m args below meth c ls Q X hret hT hl hS
  have hx := X.1
  have hb := X.2.1
  have hl : lv_has ls 2 [(0, .ref (h 0)), (1, .int a_a)] := hl
  refine lv_iload_n hx hb dX8_image_0 rfl (lv_at hl 1 rfl) ?_
  refine lv_if_lt (tgt := 9) hx hb dX8_image_1 (by decide) (fun c1 => ?_) (fun c1 => ?_)
  ·
    have q1 : a_a.toInt < 0 := i_lt c1
    have h2 : rg (-2147483648) (-1) a_a := t_ltx (-2147483648) (-1) (rg_top a_a) (rg_k (by decide) : rg 0 0 0) (i_lt c1) (by decide)
    refine lv_bipush (v := (-2)) hx hb dX8_image_9 (by decide) ?_
    exact hret (-2) _ _ _ _ _ _ dX8_image_11 hT hS (Or.inr ⟨hR, rfl, (by omega)⟩)
  ·
    have q1 : 0 ≤ a_a.toInt := i_nlt c1
    have h3 : rg 0 2147483647 a_a := t_ley 0 2147483647 (rg_k (by decide) : rg 0 0 0) (rg_top a_a) (i_nlt c1) (by decide)
    refine lv_iload_n hx hb dX8_image_4 rfl (lv_at hl 1 rfl) ?_
    refine lv_iconst (v := 3) hx hb dX8_image_5 (by decide) ?_
    refine lv_icmp_lt (tgt := 12) hx hb dX8_image_6 (by decide) (fun c4 => ?_) (fun c4 => ?_)
    ·
      have q4 : a_a.toInt < 3 := i_lt c4
      have h5 : rg 0 2 a_a := t_ltx 0 2 h3 (rg_k (by decide) : rg 3 3 3) (i_lt c4) (by decide)
      refine lv_aload_n hx hb dX8_image_12 rfl (lv_at hl 0 rfl) ?_
      refine r_getr X hT 0 4 26 fk_8_35 rfl rfl (by decide) dX8_image_13 ?_
      refine lv_iload_n hx hb dX8_image_16 rfl (lv_at hl 1 rfl) ?_
      rcases (show a_a.toInt = 0 ∨ a_a.toInt = 1 ∨ a_a.toInt = 2 by have := h5.1; have := h5.2; omega) with f6 | f6 | f6
      ·
        have h7 : rg 0 0 a_a := ⟨by omega, by omega⟩
        refine r_aald X hT 26 27 rfl (by decide) (v_in h5 (by decide)) (by rw [cl_c h7 0 rfl (by decide)]; rfl) dX8_image_17 ?_
        refine lv_aload_n hx hb dX8_image_18 rfl (lv_at hl 0 rfl) ?_
        refine r_getr X hT 0 3 15 fk_8_32 rfl rfl (by decide) dX8_image_19 ?_
        refine r_Vv (As := [.ref (h 15)]) (rest := []) X hT hS (k_X6_become_27_15 hR) mk_X6_become gm_650 rfl rfl (by decide) hd_X6_become ⟨rfl, rfl⟩ ⟨Nat.le_of_ble_eq_true rfl, Nat.le_of_ble_eq_true rfl⟩ hl.1 rfl (Nat.le_of_ble_eq_true rfl) dX8_image_22 ⟨Nat.zero_le _, Nat.zero_le _⟩ (fun i8 g8 H locs hq hT hS => ?_)
        have hR8 := hq
        refine lv_aload_n hx hb dX8_image_25 rfl (lv_at hl 0 rfl) ?_
        refine r_getr X hT 0 5 60 fk_8_39 rfl rfl (by decide) dX8_image_26 ?_
        refine lv_iload_n hx hb dX8_image_29 rfl (lv_at hl 1 rfl) ?_
        refine lv_iconst (v := 1) hx hb dX8_image_30 (by decide) ?_
        refine r_zast X hT hS 60 rfl (by decide) (v_in h7 (by decide)) dX8_image_31 (fun H locs i9 ei9 hT hS => ?_)
        replace ei9 : i9 = up2 i8 60 a_a.toNatClampNeg 1 := ei9
        have hR9 := Rg_put hR8 ei9 0 1 rfl (rg_k (by decide) : rg 1 1 1) (by decide)
        refine lv_iconst (v := 0) hx hb dX8_image_32 (by decide) ?_
        exact hret 0 _ _ _ _ _ _ dX8_image_33 hT hS (Or.inl ⟨hR9, rfl, (rg_w h7 (by decide) : rg 0 2 a_a)⟩)
      ·
        have h10 : rg 1 1 a_a := ⟨by omega, by omega⟩
        refine r_aald X hT 26 38 rfl (by decide) (v_in h5 (by decide)) (by rw [cl_c h10 1 rfl (by decide)]; rfl) dX8_image_17 ?_
        refine lv_aload_n hx hb dX8_image_18 rfl (lv_at hl 0 rfl) ?_
        refine r_getr X hT 0 3 15 fk_8_32 rfl rfl (by decide) dX8_image_19 ?_
        refine r_Vv (As := [.ref (h 15)]) (rest := []) X hT hS (k_X6_become_38_15 hR) mk_X6_become gm_650 rfl rfl (by decide) hd_X6_become ⟨rfl, rfl⟩ ⟨Nat.le_of_ble_eq_true rfl, Nat.le_of_ble_eq_true rfl⟩ hl.1 rfl (Nat.le_of_ble_eq_true rfl) dX8_image_22 ⟨Nat.zero_le _, Nat.zero_le _⟩ (fun i11 g11 H locs hq hT hS => ?_)
        have hR11 := hq
        refine lv_aload_n hx hb dX8_image_25 rfl (lv_at hl 0 rfl) ?_
        refine r_getr X hT 0 5 60 fk_8_39 rfl rfl (by decide) dX8_image_26 ?_
        refine lv_iload_n hx hb dX8_image_29 rfl (lv_at hl 1 rfl) ?_
        refine lv_iconst (v := 1) hx hb dX8_image_30 (by decide) ?_
        refine r_zast X hT hS 60 rfl (by decide) (v_in h10 (by decide)) dX8_image_31 (fun H locs i12 ei12 hT hS => ?_)
        replace ei12 : i12 = up2 i11 60 a_a.toNatClampNeg 1 := ei12
        have hR12 := Rg_put hR11 ei12 0 1 rfl (rg_k (by decide) : rg 1 1 1) (by decide)
        refine lv_iconst (v := 0) hx hb dX8_image_32 (by decide) ?_
        exact hret 0 _ _ _ _ _ _ dX8_image_33 hT hS (Or.inl ⟨hR12, rfl, (rg_w h10 (by decide) : rg 0 2 a_a)⟩)
      ·
        have h13 : rg 2 2 a_a := ⟨by omega, by omega⟩
        refine r_aald X hT 26 49 rfl (by decide) (v_in h5 (by decide)) (by rw [cl_c h13 2 rfl (by decide)]; rfl) dX8_image_17 ?_
        refine lv_aload_n hx hb dX8_image_18 rfl (lv_at hl 0 rfl) ?_
        refine r_getr X hT 0 3 15 fk_8_32 rfl rfl (by decide) dX8_image_19 ?_
        refine r_Vv (As := [.ref (h 15)]) (rest := []) X hT hS (k_X6_become_49_15 hR) mk_X6_become gm_650 rfl rfl (by decide) hd_X6_become ⟨rfl, rfl⟩ ⟨Nat.le_of_ble_eq_true rfl, Nat.le_of_ble_eq_true rfl⟩ hl.1 rfl (Nat.le_of_ble_eq_true rfl) dX8_image_22 ⟨Nat.zero_le _, Nat.zero_le _⟩ (fun i14 g14 H locs hq hT hS => ?_)
        have hR14 := hq
        refine lv_aload_n hx hb dX8_image_25 rfl (lv_at hl 0 rfl) ?_
        refine r_getr X hT 0 5 60 fk_8_39 rfl rfl (by decide) dX8_image_26 ?_
        refine lv_iload_n hx hb dX8_image_29 rfl (lv_at hl 1 rfl) ?_
        refine lv_iconst (v := 1) hx hb dX8_image_30 (by decide) ?_
        refine r_zast X hT hS 60 rfl (by decide) (v_in h13 (by decide)) dX8_image_31 (fun H locs i15 ei15 hT hS => ?_)
        replace ei15 : i15 = up2 i14 60 a_a.toNatClampNeg 1 := ei15
        have hR15 := Rg_put hR14 ei15 0 1 rfl (rg_k (by decide) : rg 1 1 1) (by decide)
        refine lv_iconst (v := 0) hx hb dX8_image_32 (by decide) ?_
        exact hret 0 _ _ _ _ _ _ dX8_image_33 hT hS (Or.inl ⟨hR15, rfl, (rg_w h13 (by decide) : rg 0 2 a_a)⟩)
    ·
      have q4 : 3 ≤ a_a.toInt := i_nlt c4
      have h16 : rg 3 2147483647 a_a := t_ley 3 2147483647 (rg_k (by decide) : rg 3 3 3) h3 (i_nlt c4) (by decide)
      refine lv_bipush (v := (-2)) hx hb dX8_image_9 (by decide) ?_
      exact hret (-2) _ _ _ _ _ _ dX8_image_11 hT hS (Or.inr ⟨hR, rfl, (by omega)⟩)

set_option maxRecDepth 100000 in
set_option maxHeartbeats 4000000 in
theorem k_X8_back {l : Launch} {D : va_G} {h : Nat → Nat} {cz : Nat → ClassId} {i : Nat → Nat → Int32} {g : Nat → Nat → Int64} (hR : Rg rF i) (a_a : Int32) : CtI l yX8_back cX8_back 2 (some .int) ({ frames := 0, cells := 0, slots := 0, locals := 0 } : Room) D h cz i g [.ref (h 0), .int a_a] (fun r u => (u = (i, g) ∧ r = (-6) ∧ rg 0 2 a_a) ∨ (u = (i, g) ∧ r = (-2) ∧ (a_a.toInt < 0 ∨ 2 < a_a.toInt))) := by
  refine k_I pn_X8_back (Nat.le_of_ble_eq_true rfl) ?_
  intro p e s m args below meth c ls Q X hret hT hl hS
  have hx := X.1
  have hb := X.2.1
  have hl : lv_has ls 2 [(0, .ref (h 0)), (1, .int a_a)] := hl
  refine lv_iload_n hx hb dX8_back_0 rfl (lv_at hl 1 rfl) ?_
  refine lv_if_lt (tgt := 9) hx hb dX8_back_1 (by decide) (fun c1 => ?_) (fun c1 => ?_)
  ·
    have q1 : a_a.toInt < 0 := i_lt c1
    have h2 : rg (-2147483648) (-1) a_a := t_ltx (-2147483648) (-1) (rg_top a_a) (rg_k (by decide) : rg 0 0 0) (i_lt c1) (by decide)
    refine lv_bipush (v := (-2)) hx hb dX8_back_9 (by decide) ?_
    exact hret (-2) _ _ _ _ _ _ dX8_back_11 hT hS (Or.inr ⟨rfl, rfl, (by omega)⟩)
  ·
    have q1 : 0 ≤ a_a.toInt := i_nlt c1
    have h3 : rg 0 2147483647 a_a := t_ley 0 2147483647 (rg_k (by decide) : rg 0 0 0) (rg_top a_a) (i_nlt c1) (by decide)
    refine lv_iload_n hx hb dX8_back_4 rfl (lv_at hl 1 rfl) ?_
    refine lv_iconst (v := 3) hx hb dX8_back_5 (by decide) ?_
    refine lv_icmp_lt (tgt := 12) hx hb dX8_back_6 (by decide) (fun c4 => ?_) (fun c4 => ?_)
    ·
      have q4 : a_a.toInt < 3 := i_lt c4
      have h5 : rg 0 2 a_a := t_ltx 0 2 h3 (rg_k (by decide) : rg 3 3 3) (i_lt c4) (by decide)
      refine lv_aload_n hx hb dX8_back_12 rfl (lv_at hl 0 rfl) ?_
      refine r_getr X hT 0 5 60 fk_8_39 rfl rfl (by decide) dX8_back_13 ?_
      refine lv_iload_n hx hb dX8_back_16 rfl (lv_at hl 1 rfl) ?_
      refine r_zald X hT 60 rfl (by decide) (v_in h5 (by decide)) dX8_back_17 ?_
      refine lv_if_ne (tgt := 24) hx hb dX8_back_18 (by decide) (fun c6 => (x_ne (Rg_at hR 60 a_a.toNatClampNeg 0 0 (v_lt (v_in h5 (by decide))) rfl) (rg_k (by decide) : rg 0 0 0) (i_ne c6) (by decide)).elim) (fun c6 => ?_)
      have q6 : (i 60 a_a.toNatClampNeg).toInt = 0 := i_eq c6
      refine lv_bipush (v := (-6)) hx hb dX8_back_21 (by decide) ?_
      exact hret (-6) _ _ _ _ _ _ dX8_back_23 hT hS (Or.inl ⟨rfl, rfl, h5⟩)
    ·
      have q4 : 3 ≤ a_a.toInt := i_nlt c4
      have h7 : rg 3 2147483647 a_a := t_ley 3 2147483647 (rg_k (by decide) : rg 3 3 3) h3 (i_nlt c4) (by decide)
      refine lv_bipush (v := (-2)) hx hb dX8_back_9 (by decide) ?_
      exact hret (-2) _ _ _ _ _ _ dX8_back_11 hT hS (Or.inr ⟨rfl, rfl, (by omega)⟩)

set_option maxRecDepth 100000 in
set_option maxHeartbeats 4000000 in
theorem k_X5_isSlot_61L {l : Launch} {D : va_G} {h : Nat → Nat} {cz : Nat → ClassId} {i : Nat → Nat → Int32} {g : Nat → Nat → Int64} (hR : Rg rL i) (a_a : Int32) : CtI l yX5_isSlot cX5_isSlot 2 (some .boolean) ({ frames := 0, cells := 0, slots := 0, locals := 0 } : Room) D h cz i g [.ref (h 61), .int a_a] (fun r u => (u = (i, g) ∧ r = 1 ∧ rg 0 3 a_a) ∨ (u = (i, g) ∧ r = 0 ∧ (a_a.toInt < 0 ∨ 3 < a_a.toInt))) := by
  refine k_Z (by intro v u hq; rcases hq with ⟨-, hq, -⟩ | ⟨-, hq, -⟩ <;> first | exact Or.inl hq | exact Or.inr hq) pn_X5_isSlot (Nat.le_of_ble_eq_true rfl) ?_
  intro p e s m args below meth c ls Q X hret hT hl hS
  have hx := X.1
  have hb := X.2.1
  have hl : lv_has ls 2 [(0, .ref (h 61)), (1, .int a_a)] := hl
  refine lv_iload_n hx hb dX5_isSlot_0 rfl (lv_at hl 1 rfl) ?_
  refine lv_if_lt (tgt := 13) hx hb dX5_isSlot_1 (by decide) (fun c1 => ?_) (fun c1 => ?_)
  ·
    have q1 : a_a.toInt < 0 := i_lt c1
    have h2 : rg (-2147483648) (-1) a_a := t_ltx (-2147483648) (-1) (rg_top a_a) (rg_k (by decide) : rg 0 0 0) (i_lt c1) (by decide)
    refine lv_iconst (v := 0) hx hb dX5_isSlot_13 (by decide) ?_
    exact hret 0 _ _ _ _ _ _ dX5_isSlot_14 hT hS (Or.inr ⟨rfl, rfl, (by omega)⟩)
  ·
    have q1 : 0 ≤ a_a.toInt := i_nlt c1
    have h3 : rg 0 2147483647 a_a := t_ley 0 2147483647 (rg_k (by decide) : rg 0 0 0) (rg_top a_a) (i_nlt c1) (by decide)
    refine lv_iload_n hx hb dX5_isSlot_4 rfl (lv_at hl 1 rfl) ?_
    refine lv_iconst (v := 4) hx hb dX5_isSlot_5 (by decide) ?_
    refine lv_icmp_ge (tgt := 13) hx hb dX5_isSlot_6 (by decide) (fun c4 => ?_) (fun c4 => ?_)
    ·
      have q4 : 4 ≤ a_a.toInt := i_le c4
      have h5 : rg 4 2147483647 a_a := t_ley 4 2147483647 (rg_k (by decide) : rg 4 4 4) h3 (i_le c4) (by decide)
      refine lv_iconst (v := 0) hx hb dX5_isSlot_13 (by decide) ?_
      exact hret 0 _ _ _ _ _ _ dX5_isSlot_14 hT hS (Or.inr ⟨rfl, rfl, (by omega)⟩)
    ·
      have q4 : a_a.toInt < 4 := i_nle c4
      have h6 : rg 0 3 a_a := t_ltx 0 3 h3 (rg_k (by decide) : rg 4 4 4) (i_nle c4) (by decide)
      refine lv_iconst (v := 1) hx hb dX5_isSlot_9 (by decide) ?_
      refine lv_goto (tgt := 14) hx hb dX5_isSlot_10 (by decide) ?_
      exact hret 1 _ _ _ _ _ _ dX5_isSlot_14 hT hS (Or.inl ⟨rfl, rfl, h6⟩)

set_option maxRecDepth 100000 in
set_option maxHeartbeats 4000000 in
theorem k_rangeCheck_240_0_60 {l : Launch} {D : va_G} {h : Nat → Nat} {cz : Nat → ClassId} {i : Nat → Nat → Int32} {g : Nat → Nat → Int64} (a_a : Int32) (a_b : Int32) (a_c : Int32) (ha_a : rg 240 240 a_a) (ha_b : rg 0 0 a_b) (ha_c : rg 60 60 a_c) : CtV l yJ7_rangeCheck_23922 cJ7_rangeCheck_23922 3 none ({ frames := 0, cells := 0, slots := 0, locals := 0 } : Room) D h cz i g [.int a_a, .int a_b, .int a_c] (fun u => u = (i, g)) := by
  refine k_V pn_J7_rangeCheck_23922 (Nat.le_of_ble_eq_true rfl) ?_
  intro p e s m args below meth c ls Q X hret hT hl hS
  have hx := X.1
  have hb := X.2.1
  have hl : lv_has ls 3 [(0, .int a_a), (1, .int a_b), (2, .int a_c)] := hl
  refine lv_iload_n hx hb dJ7_rangeCheck_23922_0 rfl (lv_at hl 1 rfl) ?_
  refine lv_iload_n hx hb dJ7_rangeCheck_23922_1 rfl (lv_at hl 2 rfl) ?_
  refine lv_icmp_le (tgt := 46) hx hb dJ7_rangeCheck_23922_2 (by decide) (fun c1 => ?_) (fun c1 => (x_lt ha_c ha_b (i_nle c1) (by decide)).elim)
  have q1 : a_b.toInt ≤ a_c.toInt := i_le c1
  refine lv_iload_n hx hb dJ7_rangeCheck_23922_46 rfl (lv_at hl 1 rfl) ?_
  refine lv_if_ge (tgt := 59) hx hb dJ7_rangeCheck_23922_47 (by decide) (fun c2 => ?_) (fun c2 => (x_lt ha_b (rg_k (by decide) : rg 0 0 0) (i_nle c2) (by decide)).elim)
  have q2 : 0 ≤ a_b.toInt := i_le c2
  refine lv_iload_n hx hb dJ7_rangeCheck_23922_59 rfl (lv_at hl 2 rfl) ?_
  refine lv_iload_n hx hb dJ7_rangeCheck_23922_60 rfl (lv_at hl 0 rfl) ?_
  refine lv_icmp_le (tgt := 73) hx hb dJ7_rangeCheck_23922_61 (by decide) (fun c3 => ?_) (fun c3 => (x_lt ha_a ha_c (i_nle c3) (by decide)).elim)
  have q3 : a_c.toInt ≤ a_a.toInt := i_le c3
  exact hret _ _ _ _ _ _ dJ7_rangeCheck_23922_73 hT hS rfl

set_option maxRecDepth 100000 in
set_option maxHeartbeats 4000000 in
theorem k_fillJ_64_0_60_0 {l : Launch} {D : va_G} {h : Nat → Nat} {cz : Nat → ClassId} {i : Nat → Nat → Int32} {g : Nat → Nat → Int64} (hR : Rg rL i) (a_b : Int32) (a_c : Int32) (a_d : Int64) (ha_b : rg 0 0 a_b) (ha_c : rg 60 60 a_c) : CtV l yJ7_fill_bad5a cJ7_fill_bad5a 6 none ({ frames := 1, cells := 0, slots := 0, locals := 22 } : Room) D h cz i g [.ref (h 64), .int a_b, .int a_c, .long a_d] (fun u => Rg rL u.1) := by
  refine k_V pn_J7_fill_bad5a (Nat.le_of_ble_eq_true rfl) ?_
  intro p e s m args below meth c ls Q X hret hT hl hS
  have hx := X.1
  have hb := X.2.1
  have hl : lv_has ls 6 [(0, .ref (h 64)), (1, .int a_b), (2, .int a_c), (3, .long a_d)] := hl
  refine lv_aload_n hx hb dJ7_fill_bad5a_0 rfl (lv_at hl 0 rfl) ?_
  refine r_alen (v := 240) X hT 64 rfl (by decide) (by decide) (by decide) dJ7_fill_bad5a_1 ?_
  refine lv_iload_n hx hb dJ7_fill_bad5a_2 rfl (lv_at hl 1 rfl) ?_
  refine lv_iload_n hx hb dJ7_fill_bad5a_3 rfl (lv_at hl 2 rfl) ?_
  refine r_Sv (As := [.int 240, .int a_b, .int a_c]) (rest := []) X hT hS (k_rangeCheck_240_0_60 (240) a_b a_c (rg_k (by decide) : rg 240 240 240) ha_b ha_c) sk_J7_rangeCheck_23922 gm_1297 hd_J7_rangeCheck_23922 ⟨rfl, rfl⟩ ⟨Nat.le_of_ble_eq_true rfl, Nat.le_of_ble_eq_true rfl⟩ hl.1 rfl (Nat.le_of_ble_eq_true rfl) dJ7_fill_bad5a_4 ⟨Nat.zero_le _, Nat.zero_le _⟩ (fun i1 g1 H locs hq hT hS => ?_)
  have eh1 := hq
  rw [(Prod.mk.inj eh1).1, (Prod.mk.inj eh1).2] at hT
  refine lv_iload_n hx hb dJ7_fill_bad5a_7 rfl (lv_at hl 1 rfl) ?_
  refine lv_istore (lv' := [(5, .int a_b), (0, .ref (h 64)), (1, .int a_b), (2, .int a_c), (3, .long a_d)]) hx hb dJ7_fill_bad5a_8 hl (by decide) rfl (fun ls hl => ?_)
  have L10_2 : ∀ (n : Nat) (x10_5 : Int32) (i3 : Nat → Nat → Int32) (g3 : Nat → Nat → Int64) (H : Heap) (locs : List Loc) (ls : Array Slot), rg 0 60 x10_5 → Rg rL i3 → TH D h cz i3 g3 H → va_S (hA h) s.heap H locs → lv_has ls 6 [(0, .ref (h 64)), (2, .int a_c), (3, .long a_d), (5, .int x10_5)] → (60 - x10_5.toInt).toNat < n → W p l e ({ frames := 1, cells := 0, slots := 0, locals := 22 } : Room) s m args below meth c H locs 0 0 Q (F0 m 10 ls []) := by
    intro n
    induction n with
    | zero => intro x10_5 i3 g3 H locs ls hhx10_5 hR3 hT hS hl hm; exact absurd hm (Nat.not_lt_zero _)
    | succ n ih =>
      intro x10_5 i3 g3 H locs ls hhx10_5 hR3 hT hS hl hm
      refine lv_iload hx hb dJ7_fill_bad5a_10 (lv_at hl 3 rfl) ?_
      refine lv_iload_n hx hb dJ7_fill_bad5a_12 rfl (lv_at hl 1 rfl) ?_
      refine lv_icmp_ge (tgt := 27) hx hb dJ7_fill_bad5a_13 (by decide) (fun c4 => ?_) (fun c4 => ?_)
      ·
        have q4 : a_c.toInt ≤ x10_5.toInt := i_le c4
        have h5 : rg 60 60 x10_5 := t_ley 60 60 ha_c hhx10_5 (i_le c4) (by decide)
        exact hret _ _ _ _ _ _ dJ7_fill_bad5a_27 hT hS hR3
      ·
        have q4 : x10_5.toInt < a_c.toInt := i_nle c4
        have h6 : rg 0 59 x10_5 := t_ltx 0 59 hhx10_5 ha_c (i_nle c4) (by decide)
        refine lv_aload_n hx hb dJ7_fill_bad5a_16 rfl (lv_at hl 0 rfl) ?_
        refine lv_iload hx hb dJ7_fill_bad5a_17 (lv_at hl 3 rfl) ?_
        refine lv_lload_n hx hb dJ7_fill_bad5a_19 rfl (lv_at hl 2 rfl) ?_
        refine r_last X hT hS 64 rfl (by decide) (v_in h6 (by decide)) dJ7_fill_bad5a_20 (fun H locs g7 eg7 hT hS => ?_)
        obtain ⟨x8, ex8⟩ : ∃ y : Int32, y = x10_5 + 1 := ⟨_, rfl⟩
        refine lv_iinc (v := x8) (lv' := [(5, .int x8), (0, .ref (h 64)), (2, .int a_c), (3, .long a_d)]) hx hb dJ7_fill_bad5a_21 hl (k := 3) rfl (by rw [ex8]; rfl) (by decide) rfl (fun ls hl => ?_)
        obtain ⟨hx8, ax8⟩ := rg_add 1 60 ex8 h6 (rg_k (by decide) : rg 1 1 1) (by decide)
        replace ax8 : x8.toInt = x10_5.toInt + 1 := ax8
        refine lv_goto (tgt := 10) hx hb dJ7_fill_bad5a_24 (by decide) ?_
        exact ih x8 _ _ _ _ _ (rg_w hx8 (by decide) : rg 0 60 x8) hR3 hT hS (lv_sub hl [1, 2, 3, 0] rfl) (m_up ax8 hx8 (by decide) hm)
  exact L10_2 _ a_b _ _ _ _ _ (rg_w ha_b (by decide) : rg 0 60 a_b) hR hT hS (lv_sub hl [1, 3, 4, 0] rfl) (Nat.lt_succ_self _)

set_option maxRecDepth 100000 in
set_option maxHeartbeats 4000000 in
theorem k_rangeCheck_240_60_120 {l : Launch} {D : va_G} {h : Nat → Nat} {cz : Nat → ClassId} {i : Nat → Nat → Int32} {g : Nat → Nat → Int64} (a_a : Int32) (a_b : Int32) (a_c : Int32) (ha_a : rg 240 240 a_a) (ha_b : rg 60 60 a_b) (ha_c : rg 120 120 a_c) : CtV l yJ7_rangeCheck_23922 cJ7_rangeCheck_23922 3 none ({ frames := 0, cells := 0, slots := 0, locals := 0 } : Room) D h cz i g [.int a_a, .int a_b, .int a_c] (fun u => u = (i, g)) := by
  refine k_V pn_J7_rangeCheck_23922 (Nat.le_of_ble_eq_true rfl) ?_
  intro p e s m args below meth c ls Q X hret hT hl hS
  have hx := X.1
  have hb := X.2.1
  have hl : lv_has ls 3 [(0, .int a_a), (1, .int a_b), (2, .int a_c)] := hl
  refine lv_iload_n hx hb dJ7_rangeCheck_23922_0 rfl (lv_at hl 1 rfl) ?_
  refine lv_iload_n hx hb dJ7_rangeCheck_23922_1 rfl (lv_at hl 2 rfl) ?_
  refine lv_icmp_le (tgt := 46) hx hb dJ7_rangeCheck_23922_2 (by decide) (fun c1 => ?_) (fun c1 => (x_lt ha_c ha_b (i_nle c1) (by decide)).elim)
  have q1 : a_b.toInt ≤ a_c.toInt := i_le c1
  refine lv_iload_n hx hb dJ7_rangeCheck_23922_46 rfl (lv_at hl 1 rfl) ?_
  refine lv_if_ge (tgt := 59) hx hb dJ7_rangeCheck_23922_47 (by decide) (fun c2 => ?_) (fun c2 => (x_lt ha_b (rg_k (by decide) : rg 0 0 0) (i_nle c2) (by decide)).elim)
  have q2 : 0 ≤ a_b.toInt := i_le c2
  refine lv_iload_n hx hb dJ7_rangeCheck_23922_59 rfl (lv_at hl 2 rfl) ?_
  refine lv_iload_n hx hb dJ7_rangeCheck_23922_60 rfl (lv_at hl 0 rfl) ?_
  refine lv_icmp_le (tgt := 73) hx hb dJ7_rangeCheck_23922_61 (by decide) (fun c3 => ?_) (fun c3 => (x_lt ha_a ha_c (i_nle c3) (by decide)).elim)
  have q3 : a_c.toInt ≤ a_a.toInt := i_le c3
  exact hret _ _ _ _ _ _ dJ7_rangeCheck_23922_73 hT hS rfl

set_option maxRecDepth 100000 in
set_option maxHeartbeats 4000000 in
theorem k_fillJ_64_60_120_0 {l : Launch} {D : va_G} {h : Nat → Nat} {cz : Nat → ClassId} {i : Nat → Nat → Int32} {g : Nat → Nat → Int64} (hR : Rg rL i) (a_b : Int32) (a_c : Int32) (a_d : Int64) (ha_b : rg 60 60 a_b) (ha_c : rg 120 120 a_c) : CtV l yJ7_fill_bad5a cJ7_fill_bad5a 6 none ({ frames := 1, cells := 0, slots := 0, locals := 22 } : Room) D h cz i g [.ref (h 64), .int a_b, .int a_c, .long a_d] (fun u => Rg rL u.1) := by
  refine k_V pn_J7_fill_bad5a (Nat.le_of_ble_eq_true rfl) ?_
  intro p e s m args below meth c ls Q X hret hT hl hS
  have hx := X.1
  have hb := X.2.1
  have hl : lv_has ls 6 [(0, .ref (h 64)), (1, .int a_b), (2, .int a_c), (3, .long a_d)] := hl
  refine lv_aload_n hx hb dJ7_fill_bad5a_0 rfl (lv_at hl 0 rfl) ?_
  refine r_alen (v := 240) X hT 64 rfl (by decide) (by decide) (by decide) dJ7_fill_bad5a_1 ?_
  refine lv_iload_n hx hb dJ7_fill_bad5a_2 rfl (lv_at hl 1 rfl) ?_
  refine lv_iload_n hx hb dJ7_fill_bad5a_3 rfl (lv_at hl 2 rfl) ?_
  refine r_Sv (As := [.int 240, .int a_b, .int a_c]) (rest := []) X hT hS (k_rangeCheck_240_60_120 (240) a_b a_c (rg_k (by decide) : rg 240 240 240) ha_b ha_c) sk_J7_rangeCheck_23922 gm_1297 hd_J7_rangeCheck_23922 ⟨rfl, rfl⟩ ⟨Nat.le_of_ble_eq_true rfl, Nat.le_of_ble_eq_true rfl⟩ hl.1 rfl (Nat.le_of_ble_eq_true rfl) dJ7_fill_bad5a_4 ⟨Nat.zero_le _, Nat.zero_le _⟩ (fun i1 g1 H locs hq hT hS => ?_)
  have eh1 := hq
  rw [(Prod.mk.inj eh1).1, (Prod.mk.inj eh1).2] at hT
  refine lv_iload_n hx hb dJ7_fill_bad5a_7 rfl (lv_at hl 1 rfl) ?_
  refine lv_istore (lv' := [(5, .int a_b), (0, .ref (h 64)), (1, .int a_b), (2, .int a_c), (3, .long a_d)]) hx hb dJ7_fill_bad5a_8 hl (by decide) rfl (fun ls hl => ?_)
  have L10_2 : ∀ (n : Nat) (x10_5 : Int32) (i3 : Nat → Nat → Int32) (g3 : Nat → Nat → Int64) (H : Heap) (locs : List Loc) (ls : Array Slot), rg 60 128 x10_5 → Rg rL i3 → TH D h cz i3 g3 H → va_S (hA h) s.heap H locs → lv_has ls 6 [(0, .ref (h 64)), (2, .int a_c), (3, .long a_d), (5, .int x10_5)] → (128 - x10_5.toInt).toNat < n → W p l e ({ frames := 1, cells := 0, slots := 0, locals := 22 } : Room) s m args below meth c H locs 0 0 Q (F0 m 10 ls []) := by
    intro n
    induction n with
    | zero => intro x10_5 i3 g3 H locs ls hhx10_5 hR3 hT hS hl hm; exact absurd hm (Nat.not_lt_zero _)
    | succ n ih =>
      intro x10_5 i3 g3 H locs ls hhx10_5 hR3 hT hS hl hm
      refine lv_iload hx hb dJ7_fill_bad5a_10 (lv_at hl 3 rfl) ?_
      refine lv_iload_n hx hb dJ7_fill_bad5a_12 rfl (lv_at hl 1 rfl) ?_
      refine lv_icmp_ge (tgt := 27) hx hb dJ7_fill_bad5a_13 (by decide) (fun c4 => ?_) (fun c4 => ?_)
      ·
        have q4 : a_c.toInt ≤ x10_5.toInt := i_le c4
        have h5 : rg 120 128 x10_5 := t_ley 120 128 ha_c hhx10_5 (i_le c4) (by decide)
        exact hret _ _ _ _ _ _ dJ7_fill_bad5a_27 hT hS hR3
      ·
        have q4 : x10_5.toInt < a_c.toInt := i_nle c4
        have h6 : rg 60 119 x10_5 := t_ltx 60 119 hhx10_5 ha_c (i_nle c4) (by decide)
        refine lv_aload_n hx hb dJ7_fill_bad5a_16 rfl (lv_at hl 0 rfl) ?_
        refine lv_iload hx hb dJ7_fill_bad5a_17 (lv_at hl 3 rfl) ?_
        refine lv_lload_n hx hb dJ7_fill_bad5a_19 rfl (lv_at hl 2 rfl) ?_
        refine r_last X hT hS 64 rfl (by decide) (v_in h6 (by decide)) dJ7_fill_bad5a_20 (fun H locs g7 eg7 hT hS => ?_)
        obtain ⟨x8, ex8⟩ : ∃ y : Int32, y = x10_5 + 1 := ⟨_, rfl⟩
        refine lv_iinc (v := x8) (lv' := [(5, .int x8), (0, .ref (h 64)), (2, .int a_c), (3, .long a_d)]) hx hb dJ7_fill_bad5a_21 hl (k := 3) rfl (by rw [ex8]; rfl) (by decide) rfl (fun ls hl => ?_)
        obtain ⟨hx8, ax8⟩ := rg_add 61 120 ex8 h6 (rg_k (by decide) : rg 1 1 1) (by decide)
        replace ax8 : x8.toInt = x10_5.toInt + 1 := ax8
        refine lv_goto (tgt := 10) hx hb dJ7_fill_bad5a_24 (by decide) ?_
        exact ih x8 _ _ _ _ _ (rg_w hx8 (by decide) : rg 60 128 x8) hR3 hT hS (lv_sub hl [1, 2, 3, 0] rfl) (m_up ax8 hx8 (by decide) hm)
  exact L10_2 _ a_b _ _ _ _ _ (rg_w ha_b (by decide) : rg 60 128 a_b) hR hT hS (lv_sub hl [1, 3, 4, 0] rfl) (Nat.lt_succ_self _)

set_option maxRecDepth 100000 in
set_option maxHeartbeats 4000000 in
theorem k_rangeCheck_240_120_180 {l : Launch} {D : va_G} {h : Nat → Nat} {cz : Nat → ClassId} {i : Nat → Nat → Int32} {g : Nat → Nat → Int64} (a_a : Int32) (a_b : Int32) (a_c : Int32) (ha_a : rg 240 240 a_a) (ha_b : rg 120 120 a_b) (ha_c : rg 180 180 a_c) : CtV l yJ7_rangeCheck_23922 cJ7_rangeCheck_23922 3 none ({ frames := 0, cells := 0, slots := 0, locals := 0 } : Room) D h cz i g [.int a_a, .int a_b, .int a_c] (fun u => u = (i, g)) := by
  refine k_V pn_J7_rangeCheck_23922 (Nat.le_of_ble_eq_true rfl) ?_
  intro p e s m args below meth c ls Q X hret hT hl hS
  have hx := X.1
  have hb := X.2.1
  have hl : lv_has ls 3 [(0, .int a_a), (1, .int a_b), (2, .int a_c)] := hl
  refine lv_iload_n hx hb dJ7_rangeCheck_23922_0 rfl (lv_at hl 1 rfl) ?_
  refine lv_iload_n hx hb dJ7_rangeCheck_23922_1 rfl (lv_at hl 2 rfl) ?_
  refine lv_icmp_le (tgt := 46) hx hb dJ7_rangeCheck_23922_2 (by decide) (fun c1 => ?_) (fun c1 => (x_lt ha_c ha_b (i_nle c1) (by decide)).elim)
  have q1 : a_b.toInt ≤ a_c.toInt := i_le c1
  refine lv_iload_n hx hb dJ7_rangeCheck_23922_46 rfl (lv_at hl 1 rfl) ?_
  refine lv_if_ge (tgt := 59) hx hb dJ7_rangeCheck_23922_47 (by decide) (fun c2 => ?_) (fun c2 => (x_lt ha_b (rg_k (by decide) : rg 0 0 0) (i_nle c2) (by decide)).elim)
  have q2 : 0 ≤ a_b.toInt := i_le c2
  refine lv_iload_n hx hb dJ7_rangeCheck_23922_59 rfl (lv_at hl 2 rfl) ?_
  refine lv_iload_n hx hb dJ7_rangeCheck_23922_60 rfl (lv_at hl 0 rfl) ?_
  refine lv_icmp_le (tgt := 73) hx hb dJ7_rangeCheck_23922_61 (by decide) (fun c3 => ?_) (fun c3 => (x_lt ha_a ha_c (i_nle c3) (by decide)).elim)
  have q3 : a_c.toInt ≤ a_a.toInt := i_le c3
  exact hret _ _ _ _ _ _ dJ7_rangeCheck_23922_73 hT hS rfl

set_option maxRecDepth 100000 in
set_option maxHeartbeats 4000000 in
theorem k_fillJ_64_120_180_0 {l : Launch} {D : va_G} {h : Nat → Nat} {cz : Nat → ClassId} {i : Nat → Nat → Int32} {g : Nat → Nat → Int64} (hR : Rg rL i) (a_b : Int32) (a_c : Int32) (a_d : Int64) (ha_b : rg 120 120 a_b) (ha_c : rg 180 180 a_c) : CtV l yJ7_fill_bad5a cJ7_fill_bad5a 6 none ({ frames := 1, cells := 0, slots := 0, locals := 22 } : Room) D h cz i g [.ref (h 64), .int a_b, .int a_c, .long a_d] (fun u => Rg rL u.1) := by
  refine k_V pn_J7_fill_bad5a (Nat.le_of_ble_eq_true rfl) ?_
  intro p e s m args below meth c ls Q X hret hT hl hS
  have hx := X.1
  have hb := X.2.1
  have hl : lv_has ls 6 [(0, .ref (h 64)), (1, .int a_b), (2, .int a_c), (3, .long a_d)] := hl
  refine lv_aload_n hx hb dJ7_fill_bad5a_0 rfl (lv_at hl 0 rfl) ?_
  refine r_alen (v := 240) X hT 64 rfl (by decide) (by decide) (by decide) dJ7_fill_bad5a_1 ?_
  refine lv_iload_n hx hb dJ7_fill_bad5a_2 rfl (lv_at hl 1 rfl) ?_
  refine lv_iload_n hx hb dJ7_fill_bad5a_3 rfl (lv_at hl 2 rfl) ?_
  refine r_Sv (As := [.int 240, .int a_b, .int a_c]) (rest := []) X hT hS (k_rangeCheck_240_120_180 (240) a_b a_c (rg_k (by decide) : rg 240 240 240) ha_b ha_c) sk_J7_rangeCheck_23922 gm_1297 hd_J7_rangeCheck_23922 ⟨rfl, rfl⟩ ⟨Nat.le_of_ble_eq_true rfl, Nat.le_of_ble_eq_true rfl⟩ hl.1 rfl (Nat.le_of_ble_eq_true rfl) dJ7_fill_bad5a_4 ⟨Nat.zero_le _, Nat.zero_le _⟩ (fun i1 g1 H locs hq hT hS => ?_)
  have eh1 := hq
  rw [(Prod.mk.inj eh1).1, (Prod.mk.inj eh1).2] at hT
  refine lv_iload_n hx hb dJ7_fill_bad5a_7 rfl (lv_at hl 1 rfl) ?_
  refine lv_istore (lv' := [(5, .int a_b), (0, .ref (h 64)), (1, .int a_b), (2, .int a_c), (3, .long a_d)]) hx hb dJ7_fill_bad5a_8 hl (by decide) rfl (fun ls hl => ?_)
  have L10_2 : ∀ (n : Nat) (x10_5 : Int32) (i3 : Nat → Nat → Int32) (g3 : Nat → Nat → Int64) (H : Heap) (locs : List Loc) (ls : Array Slot), rg 120 255 x10_5 → Rg rL i3 → TH D h cz i3 g3 H → va_S (hA h) s.heap H locs → lv_has ls 6 [(0, .ref (h 64)), (2, .int a_c), (3, .long a_d), (5, .int x10_5)] → (255 - x10_5.toInt).toNat < n → W p l e ({ frames := 1, cells := 0, slots := 0, locals := 22 } : Room) s m args below meth c H locs 0 0 Q (F0 m 10 ls []) := by
    intro n
    induction n with
    | zero => intro x10_5 i3 g3 H locs ls hhx10_5 hR3 hT hS hl hm; exact absurd hm (Nat.not_lt_zero _)
    | succ n ih =>
      intro x10_5 i3 g3 H locs ls hhx10_5 hR3 hT hS hl hm
      refine lv_iload hx hb dJ7_fill_bad5a_10 (lv_at hl 3 rfl) ?_
      refine lv_iload_n hx hb dJ7_fill_bad5a_12 rfl (lv_at hl 1 rfl) ?_
      refine lv_icmp_ge (tgt := 27) hx hb dJ7_fill_bad5a_13 (by decide) (fun c4 => ?_) (fun c4 => ?_)
      ·
        have q4 : a_c.toInt ≤ x10_5.toInt := i_le c4
        have h5 : rg 180 255 x10_5 := t_ley 180 255 ha_c hhx10_5 (i_le c4) (by decide)
        exact hret _ _ _ _ _ _ dJ7_fill_bad5a_27 hT hS hR3
      ·
        have q4 : x10_5.toInt < a_c.toInt := i_nle c4
        have h6 : rg 120 179 x10_5 := t_ltx 120 179 hhx10_5 ha_c (i_nle c4) (by decide)
        refine lv_aload_n hx hb dJ7_fill_bad5a_16 rfl (lv_at hl 0 rfl) ?_
        refine lv_iload hx hb dJ7_fill_bad5a_17 (lv_at hl 3 rfl) ?_
        refine lv_lload_n hx hb dJ7_fill_bad5a_19 rfl (lv_at hl 2 rfl) ?_
        refine r_last X hT hS 64 rfl (by decide) (v_in h6 (by decide)) dJ7_fill_bad5a_20 (fun H locs g7 eg7 hT hS => ?_)
        obtain ⟨x8, ex8⟩ : ∃ y : Int32, y = x10_5 + 1 := ⟨_, rfl⟩
        refine lv_iinc (v := x8) (lv' := [(5, .int x8), (0, .ref (h 64)), (2, .int a_c), (3, .long a_d)]) hx hb dJ7_fill_bad5a_21 hl (k := 3) rfl (by rw [ex8]; rfl) (by decide) rfl (fun ls hl => ?_)
        obtain ⟨hx8, ax8⟩ := rg_add 121 180 ex8 h6 (rg_k (by decide) : rg 1 1 1) (by decide)
        replace ax8 : x8.toInt = x10_5.toInt + 1 := ax8
        refine lv_goto (tgt := 10) hx hb dJ7_fill_bad5a_24 (by decide) ?_
        exact ih x8 _ _ _ _ _ (rg_w hx8 (by decide) : rg 120 255 x8) hR3 hT hS (lv_sub hl [1, 2, 3, 0] rfl) (m_up ax8 hx8 (by decide) hm)
  exact L10_2 _ a_b _ _ _ _ _ (rg_w ha_b (by decide) : rg 120 255 a_b) hR hT hS (lv_sub hl [1, 3, 4, 0] rfl) (Nat.lt_succ_self _)

set_option maxRecDepth 100000 in
set_option maxHeartbeats 4000000 in
theorem k_rangeCheck_240_180_240 {l : Launch} {D : va_G} {h : Nat → Nat} {cz : Nat → ClassId} {i : Nat → Nat → Int32} {g : Nat → Nat → Int64} (a_a : Int32) (a_b : Int32) (a_c : Int32) (ha_a : rg 240 240 a_a) (ha_b : rg 180 180 a_b) (ha_c : rg 240 240 a_c) : CtV l yJ7_rangeCheck_23922 cJ7_rangeCheck_23922 3 none ({ frames := 0, cells := 0, slots := 0, locals := 0 } : Room) D h cz i g [.int a_a, .int a_b, .int a_c] (fun u => u = (i, g)) := by
  refine k_V pn_J7_rangeCheck_23922 (Nat.le_of_ble_eq_true rfl) ?_
  intro p e s m args below meth c ls Q X hret hT hl hS
  have hx := X.1
  have hb := X.2.1
  have hl : lv_has ls 3 [(0, .int a_a), (1, .int a_b), (2, .int a_c)] := hl
  refine lv_iload_n hx hb dJ7_rangeCheck_23922_0 rfl (lv_at hl 1 rfl) ?_
  refine lv_iload_n hx hb dJ7_rangeCheck_23922_1 rfl (lv_at hl 2 rfl) ?_
  refine lv_icmp_le (tgt := 46) hx hb dJ7_rangeCheck_23922_2 (by decide) (fun c1 => ?_) (fun c1 => (x_lt ha_c ha_b (i_nle c1) (by decide)).elim)
  have q1 : a_b.toInt ≤ a_c.toInt := i_le c1
  refine lv_iload_n hx hb dJ7_rangeCheck_23922_46 rfl (lv_at hl 1 rfl) ?_
  refine lv_if_ge (tgt := 59) hx hb dJ7_rangeCheck_23922_47 (by decide) (fun c2 => ?_) (fun c2 => (x_lt ha_b (rg_k (by decide) : rg 0 0 0) (i_nle c2) (by decide)).elim)
  have q2 : 0 ≤ a_b.toInt := i_le c2
  refine lv_iload_n hx hb dJ7_rangeCheck_23922_59 rfl (lv_at hl 2 rfl) ?_
  refine lv_iload_n hx hb dJ7_rangeCheck_23922_60 rfl (lv_at hl 0 rfl) ?_
  refine lv_icmp_le (tgt := 73) hx hb dJ7_rangeCheck_23922_61 (by decide) (fun c3 => ?_) (fun c3 => (x_lt ha_a ha_c (i_nle c3) (by decide)).elim)
  have q3 : a_c.toInt ≤ a_a.toInt := i_le c3
  exact hret _ _ _ _ _ _ dJ7_rangeCheck_23922_73 hT hS rfl

set_option maxRecDepth 100000 in
set_option maxHeartbeats 4000000 in
theorem k_fillJ_64_180_240_0 {l : Launch} {D : va_G} {h : Nat → Nat} {cz : Nat → ClassId} {i : Nat → Nat → Int32} {g : Nat → Nat → Int64} (hR : Rg rL i) (a_b : Int32) (a_c : Int32) (a_d : Int64) (ha_b : rg 180 180 a_b) (ha_c : rg 240 240 a_c) : CtV l yJ7_fill_bad5a cJ7_fill_bad5a 6 none ({ frames := 1, cells := 0, slots := 0, locals := 22 } : Room) D h cz i g [.ref (h 64), .int a_b, .int a_c, .long a_d] (fun u => Rg rL u.1) := by
  refine k_V pn_J7_fill_bad5a (Nat.le_of_ble_eq_true rfl) ?_
  intro p e s m args below meth c ls Q X hret hT hl hS
  have hx := X.1
  have hb := X.2.1
  have hl : lv_has ls 6 [(0, .ref (h 64)), (1, .int a_b), (2, .int a_c), (3, .long a_d)] := hl
  refine lv_aload_n hx hb dJ7_fill_bad5a_0 rfl (lv_at hl 0 rfl) ?_
  refine r_alen (v := 240) X hT 64 rfl (by decide) (by decide) (by decide) dJ7_fill_bad5a_1 ?_
  refine lv_iload_n hx hb dJ7_fill_bad5a_2 rfl (lv_at hl 1 rfl) ?_
  refine lv_iload_n hx hb dJ7_fill_bad5a_3 rfl (lv_at hl 2 rfl) ?_
  refine r_Sv (As := [.int 240, .int a_b, .int a_c]) (rest := []) X hT hS (k_rangeCheck_240_180_240 (240) a_b a_c (rg_k (by decide) : rg 240 240 240) ha_b ha_c) sk_J7_rangeCheck_23922 gm_1297 hd_J7_rangeCheck_23922 ⟨rfl, rfl⟩ ⟨Nat.le_of_ble_eq_true rfl, Nat.le_of_ble_eq_true rfl⟩ hl.1 rfl (Nat.le_of_ble_eq_true rfl) dJ7_fill_bad5a_4 ⟨Nat.zero_le _, Nat.zero_le _⟩ (fun i1 g1 H locs hq hT hS => ?_)
  have eh1 := hq
  rw [(Prod.mk.inj eh1).1, (Prod.mk.inj eh1).2] at hT
  refine lv_iload_n hx hb dJ7_fill_bad5a_7 rfl (lv_at hl 1 rfl) ?_
  refine lv_istore (lv' := [(5, .int a_b), (0, .ref (h 64)), (1, .int a_b), (2, .int a_c), (3, .long a_d)]) hx hb dJ7_fill_bad5a_8 hl (by decide) rfl (fun ls hl => ?_)
  have L10_2 : ∀ (n : Nat) (x10_5 : Int32) (i3 : Nat → Nat → Int32) (g3 : Nat → Nat → Int64) (H : Heap) (locs : List Loc) (ls : Array Slot), rg 180 255 x10_5 → Rg rL i3 → TH D h cz i3 g3 H → va_S (hA h) s.heap H locs → lv_has ls 6 [(0, .ref (h 64)), (2, .int a_c), (3, .long a_d), (5, .int x10_5)] → (255 - x10_5.toInt).toNat < n → W p l e ({ frames := 1, cells := 0, slots := 0, locals := 22 } : Room) s m args below meth c H locs 0 0 Q (F0 m 10 ls []) := by
    intro n
    induction n with
    | zero => intro x10_5 i3 g3 H locs ls hhx10_5 hR3 hT hS hl hm; exact absurd hm (Nat.not_lt_zero _)
    | succ n ih =>
      intro x10_5 i3 g3 H locs ls hhx10_5 hR3 hT hS hl hm
      refine lv_iload hx hb dJ7_fill_bad5a_10 (lv_at hl 3 rfl) ?_
      refine lv_iload_n hx hb dJ7_fill_bad5a_12 rfl (lv_at hl 1 rfl) ?_
      refine lv_icmp_ge (tgt := 27) hx hb dJ7_fill_bad5a_13 (by decide) (fun c4 => ?_) (fun c4 => ?_)
      ·
        have q4 : a_c.toInt ≤ x10_5.toInt := i_le c4
        have h5 : rg 240 255 x10_5 := t_ley 240 255 ha_c hhx10_5 (i_le c4) (by decide)
        exact hret _ _ _ _ _ _ dJ7_fill_bad5a_27 hT hS hR3
      ·
        have q4 : x10_5.toInt < a_c.toInt := i_nle c4
        have h6 : rg 180 239 x10_5 := t_ltx 180 239 hhx10_5 ha_c (i_nle c4) (by decide)
        refine lv_aload_n hx hb dJ7_fill_bad5a_16 rfl (lv_at hl 0 rfl) ?_
        refine lv_iload hx hb dJ7_fill_bad5a_17 (lv_at hl 3 rfl) ?_
        refine lv_lload_n hx hb dJ7_fill_bad5a_19 rfl (lv_at hl 2 rfl) ?_
        refine r_last X hT hS 64 rfl (by decide) (v_in h6 (by decide)) dJ7_fill_bad5a_20 (fun H locs g7 eg7 hT hS => ?_)
        obtain ⟨x8, ex8⟩ : ∃ y : Int32, y = x10_5 + 1 := ⟨_, rfl⟩
        refine lv_iinc (v := x8) (lv' := [(5, .int x8), (0, .ref (h 64)), (2, .int a_c), (3, .long a_d)]) hx hb dJ7_fill_bad5a_21 hl (k := 3) rfl (by rw [ex8]; rfl) (by decide) rfl (fun ls hl => ?_)
        obtain ⟨hx8, ax8⟩ := rg_add 181 240 ex8 h6 (rg_k (by decide) : rg 1 1 1) (by decide)
        replace ax8 : x8.toInt = x10_5.toInt + 1 := ax8
        refine lv_goto (tgt := 10) hx hb dJ7_fill_bad5a_24 (by decide) ?_
        exact ih x8 _ _ _ _ _ (rg_w hx8 (by decide) : rg 180 255 x8) hR3 hT hS (lv_sub hl [1, 2, 3, 0] rfl) (m_up ax8 hx8 (by decide) hm)
  exact L10_2 _ a_b _ _ _ _ _ (rg_w ha_b (by decide) : rg 180 255 a_b) hR hT hS (lv_sub hl [1, 3, 4, 0] rfl) (Nat.lt_succ_self _)

set_option maxRecDepth 100000 in
set_option maxHeartbeats 4000000 in
theorem k_X5_lay_61 {l : Launch} {D : va_G} {h : Nat → Nat} {cz : Nat → ClassId} {i : Nat → Nat → Int32} {g : Nat → Nat → Int64} (hR : Rg rL i) (a_a : Int32) (a_b : Int32) (a_c : Int32) (ha_a : rg 0 3 a_a) (ha_b : rg 0 3 a_b) (ha_c : rg 0 60 a_c) : CtV l yX5_lay cX5_lay 5 none ({ frames := 2, cells := 0, slots := 0, locals := 47 } : Room) D h cz i g [.ref (h 61), .int a_a, .int a_b, .int a_c] (fun u => Rg rL u.1) := by
  refine k_V pn_X5_lay (Nat.le_of_ble_eq_true rfl) ?_
  intro p e s m args below meth c ls Q X hret hT hl hS
  have hx := X.1
  have hb := X.2.1
  have hl : lv_has ls 5 [(0, .ref (h 61)), (1, .int a_a), (2, .int a_b), (3, .int a_c)] := hl
  rcases (show a_a.toInt = 0 ∨ a_a.toInt = 1 ∨ a_a.toInt = 2 ∨ a_a.toInt = 3 by have := ha_a.1; have := ha_a.2; omega) with f1 | f1 | f1 | f1
  ·
    have h2 : rg 0 0 a_a := ⟨by omega, by omega⟩
    refine lv_aload_n hx hb dX5_lay_0 rfl (lv_at hl 0 rfl) ?_
    refine r_getr X hT 61 0 62 fk_5_9 rfl rfl (by decide) dX5_lay_1 ?_
    refine lv_iload_n hx hb dX5_lay_4 rfl (lv_at hl 1 rfl) ?_
    refine lv_iload_n hx hb dX5_lay_5 rfl (lv_at hl 2 rfl) ?_
    refine r_iast X hT hS 62 rfl (by decide) (v_in h2 (by decide)) dX5_lay_6 (fun H locs i3 ei3 hT hS => ?_)
    have hR3 := Rg_put hR ei3 (-1) 3 rfl ha_b (by decide)
    refine lv_aload_n hx hb dX5_lay_7 rfl (lv_at hl 0 rfl) ?_
    refine r_getr X hT 61 1 63 fk_5_15 rfl rfl (by decide) dX5_lay_8 ?_
    refine lv_iload_n hx hb dX5_lay_11 rfl (lv_at hl 1 rfl) ?_
    refine lv_iload_n hx hb dX5_lay_12 rfl (lv_at hl 3 rfl) ?_
    refine r_iast X hT hS 63 rfl (by decide) (v_in h2 (by decide)) dX5_lay_13 (fun H locs i4 ei4 hT hS => ?_)
    have hR4 := Rg_put hR3 ei4 0 60 rfl ha_c (by decide)
    refine lv_iload_n hx hb dX5_lay_14 rfl (lv_at hl 1 rfl) ?_
    refine lv_bipush (v := 60) hx hb dX5_lay_15 (by decide) ?_
    refine q_imul hx hb dX5_lay_17 (fun x5 ex5 => ?_)
    obtain ⟨hx5, ax5⟩ := rg_mul 0 0 ex5 h2 (rg_k (by decide) : rg 60 60 60) (by decide)
    replace ax5 : x5.toInt = a_a.toInt * 60 := ax5
    refine lv_istore (lv' := [(4, .int x5), (0, .ref (h 61)), (1, .int a_a), (2, .int a_b), (3, .int a_c)]) hx hb dX5_lay_18 hl (by decide) rfl (fun ls hl => ?_)
    refine lv_aload_n hx hb dX5_lay_20 rfl (lv_at hl 1 rfl) ?_
    refine r_getr X hT 61 2 64 fk_5_18 rfl rfl (by decide) dX5_lay_21 ?_
    refine lv_iload hx hb dX5_lay_24 (lv_at hl 0 rfl) ?_
    refine lv_iload hx hb dX5_lay_26 (lv_at hl 0 rfl) ?_
    refine lv_bipush (v := 60) hx hb dX5_lay_28 (by decide) ?_
    refine q_iadd hx hb dX5_lay_30 (fun x6 ex6 => ?_)
    obtain ⟨hx6, ax6⟩ := rg_add 60 60 ex6 hx5 (rg_k (by decide) : rg 60 60 60) (by decide)
    replace ax6 : x6.toInt = x5.toInt + 60 := ax6
    refine lv_lconst (v := 0) hx hb dX5_lay_31 (by decide) ?_
    refine r_Sv (As := [.ref (h 64), .int x5, .int x6, .long 0]) (rest := []) X hT hS (k_fillJ_64_0_60_0 hR4 x5 x6 (0) hx5 hx6) sk_J7_fill_bad5a gm_1294 hd_J7_fill_bad5a ⟨rfl, rfl⟩ ⟨Nat.le_of_ble_eq_true rfl, Nat.le_of_ble_eq_true rfl⟩ hl.1 rfl (Nat.le_of_ble_eq_true rfl) dX5_lay_32 ⟨Nat.zero_le _, Nat.zero_le _⟩ (fun i7 g7 H locs hq hT hS => ?_)
    have hR7 := hq
    exact hret _ _ _ _ _ _ dX5_lay_35 hT hS hR7
  ·
    have h8 : rg 1 1 a_a := ⟨by omega, by omega⟩
    refine lv_aload_n hx hb dX5_lay_0 rfl (lv_at hl 0 rfl) ?_
    refine r_getr X hT 61 0 62 fk_5_9 rfl rfl (by decide) dX5_lay_1 ?_
    refine lv_iload_n hx hb dX5_lay_4 rfl (lv_at hl 1 rfl) ?_
    refine lv_iload_n hx hb dX5_lay_5 rfl (lv_at hl 2 rfl) ?_
    refine r_iast X hT hS 62 rfl (by decide) (v_in h8 (by decide)) dX5_lay_6 (fun H locs i9 ei9 hT hS => ?_)
    have hR9 := Rg_put hR ei9 (-1) 3 rfl ha_b (by decide)
    refine lv_aload_n hx hb dX5_lay_7 rfl (lv_at hl 0 rfl) ?_
    refine r_getr X hT 61 1 63 fk_5_15 rfl rfl (by decide) dX5_lay_8 ?_
    refine lv_iload_n hx hb dX5_lay_11 rfl (lv_at hl 1 rfl) ?_
    refine lv_iload_n hx hb dX5_lay_12 rfl (lv_at hl 3 rfl) ?_
    refine r_iast X hT hS 63 rfl (by decide) (v_in h8 (by decide)) dX5_lay_13 (fun H locs i10 ei10 hT hS => ?_)
    have hR10 := Rg_put hR9 ei10 0 60 rfl ha_c (by decide)
    refine lv_iload_n hx hb dX5_lay_14 rfl (lv_at hl 1 rfl) ?_
    refine lv_bipush (v := 60) hx hb dX5_lay_15 (by decide) ?_
    refine q_imul hx hb dX5_lay_17 (fun x11 ex11 => ?_)
    obtain ⟨hx11, ax11⟩ := rg_mul 60 60 ex11 h8 (rg_k (by decide) : rg 60 60 60) (by decide)
    replace ax11 : x11.toInt = a_a.toInt * 60 := ax11
    refine lv_istore (lv' := [(4, .int x11), (0, .ref (h 61)), (1, .int a_a), (2, .int a_b), (3, .int a_c)]) hx hb dX5_lay_18 hl (by decide) rfl (fun ls hl => ?_)
    refine lv_aload_n hx hb dX5_lay_20 rfl (lv_at hl 1 rfl) ?_
    refine r_getr X hT 61 2 64 fk_5_18 rfl rfl (by decide) dX5_lay_21 ?_
    refine lv_iload hx hb dX5_lay_24 (lv_at hl 0 rfl) ?_
    refine lv_iload hx hb dX5_lay_26 (lv_at hl 0 rfl) ?_
    refine lv_bipush (v := 60) hx hb dX5_lay_28 (by decide) ?_
    refine q_iadd hx hb dX5_lay_30 (fun x12 ex12 => ?_)
    obtain ⟨hx12, ax12⟩ := rg_add 120 120 ex12 hx11 (rg_k (by decide) : rg 60 60 60) (by decide)
    replace ax12 : x12.toInt = x11.toInt + 60 := ax12
    refine lv_lconst (v := 0) hx hb dX5_lay_31 (by decide) ?_
    refine r_Sv (As := [.ref (h 64), .int x11, .int x12, .long 0]) (rest := []) X hT hS (k_fillJ_64_60_120_0 hR10 x11 x12 (0) hx11 hx12) sk_J7_fill_bad5a gm_1294 hd_J7_fill_bad5a ⟨rfl, rfl⟩ ⟨Nat.le_of_ble_eq_true rfl, Nat.le_of_ble_eq_true rfl⟩ hl.1 rfl (Nat.le_of_ble_eq_true rfl) dX5_lay_32 ⟨Nat.zero_le _, Nat.zero_le _⟩ (fun i13 g13 H locs hq hT hS => ?_)
    have hR13 := hq
    exact hret _ _ _ _ _ _ dX5_lay_35 hT hS hR13
  ·
    have h14 : rg 2 2 a_a := ⟨by omega, by omega⟩
    refine lv_aload_n hx hb dX5_lay_0 rfl (lv_at hl 0 rfl) ?_
    refine r_getr X hT 61 0 62 fk_5_9 rfl rfl (by decide) dX5_lay_1 ?_
    refine lv_iload_n hx hb dX5_lay_4 rfl (lv_at hl 1 rfl) ?_
    refine lv_iload_n hx hb dX5_lay_5 rfl (lv_at hl 2 rfl) ?_
    refine r_iast X hT hS 62 rfl (by decide) (v_in h14 (by decide)) dX5_lay_6 (fun H locs i15 ei15 hT hS => ?_)
    have hR15 := Rg_put hR ei15 (-1) 3 rfl ha_b (by decide)
    refine lv_aload_n hx hb dX5_lay_7 rfl (lv_at hl 0 rfl) ?_
    refine r_getr X hT 61 1 63 fk_5_15 rfl rfl (by decide) dX5_lay_8 ?_
    refine lv_iload_n hx hb dX5_lay_11 rfl (lv_at hl 1 rfl) ?_
    refine lv_iload_n hx hb dX5_lay_12 rfl (lv_at hl 3 rfl) ?_
    refine r_iast X hT hS 63 rfl (by decide) (v_in h14 (by decide)) dX5_lay_13 (fun H locs i16 ei16 hT hS => ?_)
    have hR16 := Rg_put hR15 ei16 0 60 rfl ha_c (by decide)
    refine lv_iload_n hx hb dX5_lay_14 rfl (lv_at hl 1 rfl) ?_
    refine lv_bipush (v := 60) hx hb dX5_lay_15 (by decide) ?_
    refine q_imul hx hb dX5_lay_17 (fun x17 ex17 => ?_)
    obtain ⟨hx17, ax17⟩ := rg_mul 120 120 ex17 h14 (rg_k (by decide) : rg 60 60 60) (by decide)
    replace ax17 : x17.toInt = a_a.toInt * 60 := ax17
    refine lv_istore (lv' := [(4, .int x17), (0, .ref (h 61)), (1, .int a_a), (2, .int a_b), (3, .int a_c)]) hx hb dX5_lay_18 hl (by decide) rfl (fun ls hl => ?_)
    refine lv_aload_n hx hb dX5_lay_20 rfl (lv_at hl 1 rfl) ?_
    refine r_getr X hT 61 2 64 fk_5_18 rfl rfl (by decide) dX5_lay_21 ?_
    refine lv_iload hx hb dX5_lay_24 (lv_at hl 0 rfl) ?_
    refine lv_iload hx hb dX5_lay_26 (lv_at hl 0 rfl) ?_
    refine lv_bipush (v := 60) hx hb dX5_lay_28 (by decide) ?_
    refine q_iadd hx hb dX5_lay_30 (fun x18 ex18 => ?_)
    obtain ⟨hx18, ax18⟩ := rg_add 180 180 ex18 hx17 (rg_k (by decide) : rg 60 60 60) (by decide)
    replace ax18 : x18.toInt = x17.toInt + 60 := ax18
    refine lv_lconst (v := 0) hx hb dX5_lay_31 (by decide) ?_
    refine r_Sv (As := [.ref (h 64), .int x17, .int x18, .long 0]) (rest := []) X hT hS (k_fillJ_64_120_180_0 hR16 x17 x18 (0) hx17 hx18) sk_J7_fill_bad5a gm_1294 hd_J7_fill_bad5a ⟨rfl, rfl⟩ ⟨Nat.le_of_ble_eq_true rfl, Nat.le_of_ble_eq_true rfl⟩ hl.1 rfl (Nat.le_of_ble_eq_true rfl) dX5_lay_32 ⟨Nat.zero_le _, Nat.zero_le _⟩ (fun i19 g19 H locs hq hT hS => ?_)
    have hR19 := hq
    exact hret _ _ _ _ _ _ dX5_lay_35 hT hS hR19
  ·
    have h20 : rg 3 3 a_a := ⟨by omega, by omega⟩
    refine lv_aload_n hx hb dX5_lay_0 rfl (lv_at hl 0 rfl) ?_
    refine r_getr X hT 61 0 62 fk_5_9 rfl rfl (by decide) dX5_lay_1 ?_
    refine lv_iload_n hx hb dX5_lay_4 rfl (lv_at hl 1 rfl) ?_
    refine lv_iload_n hx hb dX5_lay_5 rfl (lv_at hl 2 rfl) ?_
    refine r_iast X hT hS 62 rfl (by decide) (v_in h20 (by decide)) dX5_lay_6 (fun H locs i21 ei21 hT hS => ?_)
    have hR21 := Rg_put hR ei21 (-1) 3 rfl ha_b (by decide)
    refine lv_aload_n hx hb dX5_lay_7 rfl (lv_at hl 0 rfl) ?_
    refine r_getr X hT 61 1 63 fk_5_15 rfl rfl (by decide) dX5_lay_8 ?_
    refine lv_iload_n hx hb dX5_lay_11 rfl (lv_at hl 1 rfl) ?_
    refine lv_iload_n hx hb dX5_lay_12 rfl (lv_at hl 3 rfl) ?_
    refine r_iast X hT hS 63 rfl (by decide) (v_in h20 (by decide)) dX5_lay_13 (fun H locs i22 ei22 hT hS => ?_)
    have hR22 := Rg_put hR21 ei22 0 60 rfl ha_c (by decide)
    refine lv_iload_n hx hb dX5_lay_14 rfl (lv_at hl 1 rfl) ?_
    refine lv_bipush (v := 60) hx hb dX5_lay_15 (by decide) ?_
    refine q_imul hx hb dX5_lay_17 (fun x23 ex23 => ?_)
    obtain ⟨hx23, ax23⟩ := rg_mul 180 180 ex23 h20 (rg_k (by decide) : rg 60 60 60) (by decide)
    replace ax23 : x23.toInt = a_a.toInt * 60 := ax23
    refine lv_istore (lv' := [(4, .int x23), (0, .ref (h 61)), (1, .int a_a), (2, .int a_b), (3, .int a_c)]) hx hb dX5_lay_18 hl (by decide) rfl (fun ls hl => ?_)
    refine lv_aload_n hx hb dX5_lay_20 rfl (lv_at hl 1 rfl) ?_
    refine r_getr X hT 61 2 64 fk_5_18 rfl rfl (by decide) dX5_lay_21 ?_
    refine lv_iload hx hb dX5_lay_24 (lv_at hl 0 rfl) ?_
    refine lv_iload hx hb dX5_lay_26 (lv_at hl 0 rfl) ?_
    refine lv_bipush (v := 60) hx hb dX5_lay_28 (by decide) ?_
    refine q_iadd hx hb dX5_lay_30 (fun x24 ex24 => ?_)
    obtain ⟨hx24, ax24⟩ := rg_add 240 240 ex24 hx23 (rg_k (by decide) : rg 60 60 60) (by decide)
    replace ax24 : x24.toInt = x23.toInt + 60 := ax24
    refine lv_lconst (v := 0) hx hb dX5_lay_31 (by decide) ?_
    refine r_Sv (As := [.ref (h 64), .int x23, .int x24, .long 0]) (rest := []) X hT hS (k_fillJ_64_180_240_0 hR22 x23 x24 (0) hx23 hx24) sk_J7_fill_bad5a gm_1294 hd_J7_fill_bad5a ⟨rfl, rfl⟩ ⟨Nat.le_of_ble_eq_true rfl, Nat.le_of_ble_eq_true rfl⟩ hl.1 rfl (Nat.le_of_ble_eq_true rfl) dX5_lay_32 ⟨Nat.zero_le _, Nat.zero_le _⟩ (fun i25 g25 H locs hq hT hS => ?_)
    have hR25 := hq
    exact hret _ _ _ _ _ _ dX5_lay_35 hT hS hR25

set_option maxRecDepth 100000 in
set_option maxHeartbeats 4000000 in
theorem k_X8_row {l : Launch} {D : va_G} {h : Nat → Nat} {cz : Nat → ClassId} {i : Nat → Nat → Int32} {g : Nat → Nat → Int64} (hR : Rg rL i) (a_a : Int32) (a_b : Int32) (a_c : Int32) : CtI l yX8_row cX8_row 4 (some .int) ({ frames := 3, cells := 0, slots := 0, locals := 71 } : Room) D h cz i g [.ref (h 0), .int a_a, .int a_b, .int a_c] (fun r u => (Rg rL u.1 ∧ r = 0 ∧ ((0 ≤ a_a.toInt ∧ a_a.toInt ≤ 3) ∧ (0 ≤ a_b.toInt ∧ a_b.toInt ≤ 3) ∧ 0 ≤ a_c.toInt ∧ a_c.toInt ≤ 60)) ∨ (Rg rL u.1 ∧ r = (-3) ∧ ((0 ≤ a_a.toInt ∧ a_a.toInt ≤ 3) ∧ (0 ≤ a_b.toInt ∧ a_b.toInt ≤ 3) ∧ a_c.toInt < 0)) ∨ (Rg rL u.1 ∧ r = (-2) ∧ ((a_a.toInt < 0 ∨ 3 < a_a.toInt) ∨ (a_b.toInt < 0 ∨ 3 < a_b.toInt) ∨ 60 < a_c.toInt))) := by
  refine k_I pn_X8_row (Nat.le_of_ble_eq_true rfl) ?_
  intro p e s m args below meth c ls Q X hret hT hl hS
  have hx := X.1
  have hb := X.2.1
  have hl : lv_has ls 4 [(0, .ref (h 0)), (1, .int a_a), (2, .int a_b), (3, .int a_c)] := hl
  refine lv_aload_n hx hb dX8_row_0 rfl (lv_at hl 0 rfl) ?_
  refine r_getr X hT 0 6 61 fk_8_46 rfl rfl (by decide) dX8_row_1 ?_
  refine lv_iload_n hx hb dX8_row_4 rfl (lv_at hl 1 rfl) ?_
  refine r_Vi (As := [.int a_a]) (rest := []) X hT hS (k_X5_isSlot_61L hR a_a) mk_X5_isSlot gm_1056 rfl rfl (by decide) hd_X5_isSlot ⟨rfl, rfl⟩ ⟨Nat.le_of_ble_eq_true rfl, Nat.le_of_ble_eq_true rfl⟩ hl.1 rfl (Nat.le_of_ble_eq_true rfl) dX8_row_5 ⟨Nat.zero_le _, Nat.zero_le _⟩ (fun r1 i1 g1 H locs hq hT hS => ?_)
  rcases hq with hq | hq
  ·
    obtain ⟨eh1, rfl, hf1_0⟩ := hq
    rw [(Prod.mk.inj eh1).1, (Prod.mk.inj eh1).2] at hT
    have h2 : rg 0 3 a_a := ⟨by have := (rg_top a_a).1; have := hf1_0.1; omega, by have := (rg_top a_a).2; have := hf1_0.2; omega⟩
    refine lv_if_eq (tgt := 26) hx hb dX8_row_8 (by decide) (fun c3 => (x_eq (rg_k (by decide) : rg 1 1 1) (rg_k (by decide) : rg 0 0 0) (i_eq c3) (by decide)).elim) (fun c3 => ?_)
    refine lv_iload_n hx hb dX8_row_11 rfl (lv_at hl 2 rfl) ?_
    refine lv_if_lt (tgt := 26) hx hb dX8_row_12 (by decide) (fun c4 => ?_) (fun c4 => ?_)
    ·
      have q4 : a_b.toInt < 0 := i_lt c4
      have h5 : rg (-2147483648) (-1) a_b := t_ltx (-2147483648) (-1) (rg_top a_b) (rg_k (by decide) : rg 0 0 0) (i_lt c4) (by decide)
      refine lv_bipush (v := (-2)) hx hb dX8_row_26 (by decide) ?_
      exact hret (-2) _ _ _ _ _ _ dX8_row_28 hT hS (Or.inr (Or.inr ⟨hR, rfl, (by have := h2.1; have := h2.2; have := h5.1; have := h5.2; omega)⟩))
    ·
      have q4 : 0 ≤ a_b.toInt := i_nlt c4
      have h6 : rg 0 2147483647 a_b := t_ley 0 2147483647 (rg_k (by decide) : rg 0 0 0) (rg_top a_b) (i_nlt c4) (by decide)
      refine lv_iload_n hx hb dX8_row_15 rfl (lv_at hl 2 rfl) ?_
      refine lv_iconst (v := 4) hx hb dX8_row_16 (by decide) ?_
      refine lv_icmp_ge (tgt := 26) hx hb dX8_row_17 (by decide) (fun c7 => ?_) (fun c7 => ?_)
      ·
        have q7 : 4 ≤ a_b.toInt := i_le c7
        have h8 : rg 4 2147483647 a_b := t_ley 4 2147483647 (rg_k (by decide) : rg 4 4 4) h6 (i_le c7) (by decide)
        refine lv_bipush (v := (-2)) hx hb dX8_row_26 (by decide) ?_
        exact hret (-2) _ _ _ _ _ _ dX8_row_28 hT hS (Or.inr (Or.inr ⟨hR, rfl, (by have := h2.1; have := h2.2; have := h8.1; have := h8.2; omega)⟩))
      ·
        have q7 : a_b.toInt < 4 := i_nle c7
        have h9 : rg 0 3 a_b := t_ltx 0 3 h6 (rg_k (by decide) : rg 4 4 4) (i_nle c7) (by decide)
        refine lv_iload_n hx hb dX8_row_20 rfl (lv_at hl 3 rfl) ?_
        refine lv_bipush (v := 60) hx hb dX8_row_21 (by decide) ?_
        refine lv_icmp_le (tgt := 29) hx hb dX8_row_23 (by decide) (fun c10 => ?_) (fun c10 => ?_)
        ·
          have q10 : a_c.toInt ≤ 60 := i_le c10
          have h11 : rg (-2147483648) 60 a_c := t_lex (-2147483648) 60 (rg_top a_c) (rg_k (by decide) : rg 60 60 60) (i_le c10) (by decide)
          refine lv_iload_n hx hb dX8_row_29 rfl (lv_at hl 3 rfl) ?_
          refine lv_if_ge (tgt := 36) hx hb dX8_row_30 (by decide) (fun c12 => ?_) (fun c12 => ?_)
          ·
            have q12 : 0 ≤ a_c.toInt := i_le c12
            have h13 : rg 0 60 a_c := t_ley 0 60 (rg_k (by decide) : rg 0 0 0) h11 (i_le c12) (by decide)
            refine lv_aload_n hx hb dX8_row_36 rfl (lv_at hl 0 rfl) ?_
            refine r_getr X hT 0 6 61 fk_8_46 rfl rfl (by decide) dX8_row_37 ?_
            refine lv_iload_n hx hb dX8_row_40 rfl (lv_at hl 1 rfl) ?_
            refine lv_iload_n hx hb dX8_row_41 rfl (lv_at hl 2 rfl) ?_
            refine lv_iload_n hx hb dX8_row_42 rfl (lv_at hl 3 rfl) ?_
            refine r_Vv (As := [.int a_a, .int a_b, .int a_c]) (rest := []) X hT hS (k_X5_lay_61 hR a_a a_b a_c h2 h9 h13) mk_X5_lay gm_1290 rfl rfl (by decide) hd_X5_lay ⟨rfl, rfl⟩ ⟨Nat.le_of_ble_eq_true rfl, Nat.le_of_ble_eq_true rfl⟩ hl.1 rfl (Nat.le_of_ble_eq_true rfl) dX8_row_43 ⟨Nat.zero_le _, Nat.zero_le _⟩ (fun i14 g14 H locs hq hT hS => ?_)
            have hR14 := hq
            refine lv_iconst (v := 0) hx hb dX8_row_46 (by decide) ?_
            exact hret 0 _ _ _ _ _ _ dX8_row_47 hT hS (Or.inl ⟨hR14, rfl, (by have := h2.1; have := h2.2; have := h9.1; have := h9.2; have := h13.1; have := h13.2; omega)⟩)
          ·
            have q12 : a_c.toInt < 0 := i_nle c12
            have h15 : rg (-2147483648) (-1) a_c := t_ltx (-2147483648) (-1) h11 (rg_k (by decide) : rg 0 0 0) (i_nle c12) (by decide)
            refine lv_bipush (v := (-3)) hx hb dX8_row_33 (by decide) ?_
            exact hret (-3) _ _ _ _ _ _ dX8_row_35 hT hS (Or.inr (Or.inl ⟨hR, rfl, (by have := h2.1; have := h2.2; have := h9.1; have := h9.2; have := h15.1; have := h15.2; omega)⟩))
        ·
          have q10 : 60 < a_c.toInt := i_nle c10
          have h16 : rg 61 2147483647 a_c := t_lty 61 2147483647 (rg_k (by decide) : rg 60 60 60) (rg_top a_c) (i_nle c10) (by decide)
          refine lv_bipush (v := (-2)) hx hb dX8_row_26 (by decide) ?_
          exact hret (-2) _ _ _ _ _ _ dX8_row_28 hT hS (Or.inr (Or.inr ⟨hR, rfl, (by have := h2.1; have := h2.2; have := h9.1; have := h9.2; have := h16.1; have := h16.2; omega)⟩))
  ·
    obtain ⟨eh1, rfl, hf1_0⟩ := hq
    rw [(Prod.mk.inj eh1).1, (Prod.mk.inj eh1).2] at hT
    refine lv_if_eq (tgt := 26) hx hb dX8_row_8 (by decide) (fun c17 => ?_) (fun c17 => (x_ne (rg_k (by decide) : rg 0 0 0) (rg_k (by decide) : rg 0 0 0) (i_ne c17) (by decide)).elim)
    refine lv_bipush (v := (-2)) hx hb dX8_row_26 (by decide) ?_
    exact hret (-2) _ _ _ _ _ _ dX8_row_28 hT hS (Or.inr (Or.inr ⟨hR, rfl, (by omega)⟩))

set_option maxRecDepth 100000 in
set_option maxHeartbeats 4000000 in
theorem k_X5_isSlot_61 {l : Launch} {D : va_G} {h : Nat → Nat} {cz : Nat → ClassId} {i : Nat → Nat → Int32} {g : Nat → Nat → Int64} (hR : Rg rF i) (a_a : Int32) : CtI l yX5_isSlot cX5_isSlot 2 (some .boolean) ({ frames := 0, cells := 0, slots := 0, locals := 0 } : Room) D h cz i g [.ref (h 61), .int a_a] (fun r u => (u = (i, g) ∧ r = 1 ∧ rg 0 3 a_a) ∨ (u = (i, g) ∧ r = 0 ∧ (a_a.toInt < 0 ∨ 3 < a_a.toInt))) := by
  refine k_Z (by intro v u hq; rcases hq with ⟨-, hq, -⟩ | ⟨-, hq, -⟩ <;> first | exact Or.inl hq | exact Or.inr hq) pn_X5_isSlot (Nat.le_of_ble_eq_true rfl) ?_
  intro p e s m args below meth c ls Q X hret hT hl hS
  have hx := X.1
  have hb := X.2.1
  have hl : lv_has ls 2 [(0, .ref (h 61)), (1, .int a_a)] := hl
  refine lv_iload_n hx hb dX5_isSlot_0 rfl (lv_at hl 1 rfl) ?_
  refine lv_if_lt (tgt := 13) hx hb dX5_isSlot_1 (by decide) (fun c1 => ?_) (fun c1 => ?_)
  ·
    have q1 : a_a.toInt < 0 := i_lt c1
    have h2 : rg (-2147483648) (-1) a_a := t_ltx (-2147483648) (-1) (rg_top a_a) (rg_k (by decide) : rg 0 0 0) (i_lt c1) (by decide)
    refine lv_iconst (v := 0) hx hb dX5_isSlot_13 (by decide) ?_
    exact hret 0 _ _ _ _ _ _ dX5_isSlot_14 hT hS (Or.inr ⟨rfl, rfl, (by omega)⟩)
  ·
    have q1 : 0 ≤ a_a.toInt := i_nlt c1
    have h3 : rg 0 2147483647 a_a := t_ley 0 2147483647 (rg_k (by decide) : rg 0 0 0) (rg_top a_a) (i_nlt c1) (by decide)
    refine lv_iload_n hx hb dX5_isSlot_4 rfl (lv_at hl 1 rfl) ?_
    refine lv_iconst (v := 4) hx hb dX5_isSlot_5 (by decide) ?_
    refine lv_icmp_ge (tgt := 13) hx hb dX5_isSlot_6 (by decide) (fun c4 => ?_) (fun c4 => ?_)
    ·
      have q4 : 4 ≤ a_a.toInt := i_le c4
      have h5 : rg 4 2147483647 a_a := t_ley 4 2147483647 (rg_k (by decide) : rg 4 4 4) h3 (i_le c4) (by decide)
      refine lv_iconst (v := 0) hx hb dX5_isSlot_13 (by decide) ?_
      exact hret 0 _ _ _ _ _ _ dX5_isSlot_14 hT hS (Or.inr ⟨rfl, rfl, (by omega)⟩)
    ·
      have q4 : a_a.toInt < 4 := i_nle c4
      have h6 : rg 0 3 a_a := t_ltx 0 3 h3 (rg_k (by decide) : rg 4 4 4) (i_nle c4) (by decide)
      refine lv_iconst (v := 1) hx hb dX5_isSlot_9 (by decide) ?_
      refine lv_goto (tgt := 14) hx hb dX5_isSlot_10 (by decide) ?_
      exact hret 1 _ _ _ _ _ _ dX5_isSlot_14 hT hS (Or.inl ⟨rfl, rfl, h6⟩)

set_option maxRecDepth 100000 in
set_option maxHeartbeats 4000000 in
theorem k_X8_write {l : Launch} {D : va_G} {h : Nat → Nat} {cz : Nat → ClassId} {i : Nat → Nat → Int32} {g : Nat → Nat → Int64} (hR : Rg rF i) (a_a : Int32) (a_b : Int32) (a_c : Int64) : CtI l yX8_write cX8_write 5 (some .int) ({ frames := 1, cells := 0, slots := 0, locals := 21 } : Room) D h cz i g [.ref (h 0), .int a_a, .int a_b, .long a_c] (fun r u => (u = (i, g) ∧ r = (-6) ∧ rg 0 3 a_a) ∨ (u = (i, g) ∧ r = (-2) ∧ (a_a.toInt < 0 ∨ 3 < a_a.toInt))) := by
  refine k_I pn_X8_write (Nat.le_of_ble_eq_true rfl) ?_
  intro p e s m args below meth c ls Q X hret hT hl hS
  have hx := X.1
  have hb := X.2.1
  have hl : lv_has ls 5 [(0, .ref (h 0)), (1, .int a_a), (2, .int a_b), (3, .long a_c)] := hl
  refine lv_aload_n hx hb dX8_write_0 rfl (lv_at hl 0 rfl) ?_
  refine r_getr X hT 0 6 61 fk_8_46 rfl rfl (by decide) dX8_write_1 ?_
  refine lv_iload_n hx hb dX8_write_4 rfl (lv_at hl 1 rfl) ?_
  refine r_Vi (As := [.int a_a]) (rest := []) X hT hS (k_X5_isSlot_61 hR a_a) mk_X5_isSlot gm_1056 rfl rfl (by decide) hd_X5_isSlot ⟨rfl, rfl⟩ ⟨Nat.le_of_ble_eq_true rfl, Nat.le_of_ble_eq_true rfl⟩ hl.1 rfl (Nat.le_of_ble_eq_true rfl) dX8_write_5 ⟨Nat.zero_le _, Nat.zero_le _⟩ (fun r1 i1 g1 H locs hq hT hS => ?_)
  rcases hq with hq | hq
  ·
    obtain ⟨eh1, rfl, hf1_0⟩ := hq
    rw [(Prod.mk.inj eh1).1, (Prod.mk.inj eh1).2] at hT
    have h2 : rg 0 3 a_a := ⟨by have := (rg_top a_a).1; have := hf1_0.1; omega, by have := (rg_top a_a).2; have := hf1_0.2; omega⟩
    refine lv_if_ne (tgt := 14) hx hb dX8_write_8 (by decide) (fun c3 => ?_) (fun c3 => (x_eq (rg_k (by decide) : rg 1 1 1) (rg_k (by decide) : rg 0 0 0) (i_eq c3) (by decide)).elim)
    refine lv_aload_n hx hb dX8_write_14 rfl (lv_at hl 0 rfl) ?_
    refine r_getr X hT 0 6 61 fk_8_46 rfl rfl (by decide) dX8_write_15 ?_
    refine lv_iload_n hx hb dX8_write_18 rfl (lv_at hl 1 rfl) ?_
    refine r_Vi (As := [.int a_a]) (rest := []) X hT hS (k_X5_isBare_61 hR a_a h2) mk_X5_isBare gm_1060 rfl rfl (by decide) hd_X5_isBare ⟨rfl, rfl⟩ ⟨Nat.le_of_ble_eq_true rfl, Nat.le_of_ble_eq_true rfl⟩ hl.1 rfl (Nat.le_of_ble_eq_true rfl) dX8_write_19 ⟨Nat.zero_le _, Nat.zero_le _⟩ (fun r4 i4 g4 H locs hq hT hS => ?_)
    obtain ⟨eh4, rfl⟩ := hq
    rw [(Prod.mk.inj eh4).1, (Prod.mk.inj eh4).2] at hT
    refine lv_if_eq (tgt := 28) hx hb dX8_write_22 (by decide) (fun c5 => (x_eq (rg_k (by decide) : rg 1 1 1) (rg_k (by decide) : rg 0 0 0) (i_eq c5) (by decide)).elim) (fun c5 => ?_)
    refine lv_bipush (v := (-6)) hx hb dX8_write_25 (by decide) ?_
    exact hret (-6) _ _ _ _ _ _ dX8_write_27 hT hS (Or.inl ⟨rfl, rfl, h2⟩)
  ·
    obtain ⟨eh1, rfl, hf1_0⟩ := hq
    rw [(Prod.mk.inj eh1).1, (Prod.mk.inj eh1).2] at hT
    refine lv_if_ne (tgt := 14) hx hb dX8_write_8 (by decide) (fun c6 => (x_ne (rg_k (by decide) : rg 0 0 0) (rg_k (by decide) : rg 0 0 0) (i_ne c6) (by decide)).elim) (fun c6 => ?_)
    refine lv_bipush (v := (-2)) hx hb dX8_write_11 (by decide) ?_
    exact hret (-2) _ _ _ _ _ _ dX8_write_13 hT hS (Or.inr ⟨rfl, rfl, (by omega)⟩)

set_option maxRecDepth 100000 in
set_option maxHeartbeats 4000000 in
theorem k_X8_paste {l : Launch} {D : va_G} {h : Nat → Nat} {cz : Nat → ClassId} {i : Nat → Nat → Int32} {g : Nat → Nat → Int64} (hR : Rg rF i) (a_a : Int32) (a_b : Int32) (a_c : Int32) (a_d : Int32) (a_e : Int32) : CtI l yX8_paste cX8_paste 6 (some .int) ({ frames := 1, cells := 0, slots := 0, locals := 21 } : Room) D h cz i g [.ref (h 0), .int a_a, .int a_b, .int a_c, .int a_d, .int a_e] (fun r u => (u = (i, g) ∧ r = (-6) ∧ ((0 ≤ a_a.toInt ∧ a_a.toInt ≤ 3) ∧ (0 ≤ a_c.toInt ∧ a_c.toInt ≤ 3))) ∨ (u = (i, g) ∧ r = (-2) ∧ ((a_a.toInt < 0 ∨ 3 < a_a.toInt) ∨ (a_c.toInt < 0 ∨ 3 < a_c.toInt)))) := by
  refine k_I pn_X8_paste (Nat.le_of_ble_eq_true rfl) ?_
  intro p e s m args below meth c ls Q X hret hT hl hS
  have hx := X.1
  have hb := X.2.1
  have hl : lv_has ls 6 [(0, .ref (h 0)), (1, .int a_a), (2, .int a_b), (3, .int a_c), (4, .int a_d), (5, .int a_e)] := hl
  refine lv_aload_n hx hb dX8_paste_0 rfl (lv_at hl 0 rfl) ?_
  refine r_getr X hT 0 6 61 fk_8_46 rfl rfl (by decide) dX8_paste_1 ?_
  refine lv_iload_n hx hb dX8_paste_4 rfl (lv_at hl 1 rfl) ?_
  refine r_Vi (As := [.int a_a]) (rest := []) X hT hS (k_X5_isSlot_61 hR a_a) mk_X5_isSlot gm_1056 rfl rfl (by decide) hd_X5_isSlot ⟨rfl, rfl⟩ ⟨Nat.le_of_ble_eq_true rfl, Nat.le_of_ble_eq_true rfl⟩ hl.1 rfl (Nat.le_of_ble_eq_true rfl) dX8_paste_5 ⟨Nat.zero_le _, Nat.zero_le _⟩ (fun r1 i1 g1 H locs hq hT hS => ?_)
  rcases hq with hq | hq
  ·
    obtain ⟨eh1, rfl, hf1_0⟩ := hq
    rw [(Prod.mk.inj eh1).1, (Prod.mk.inj eh1).2] at hT
    have h2 : rg 0 3 a_a := ⟨by have := (rg_top a_a).1; have := hf1_0.1; omega, by have := (rg_top a_a).2; have := hf1_0.2; omega⟩
    refine lv_if_eq (tgt := 22) hx hb dX8_paste_8 (by decide) (fun c3 => (x_eq (rg_k (by decide) : rg 1 1 1) (rg_k (by decide) : rg 0 0 0) (i_eq c3) (by decide)).elim) (fun c3 => ?_)
    refine lv_aload_n hx hb dX8_paste_11 rfl (lv_at hl 0 rfl) ?_
    refine r_getr X hT 0 6 61 fk_8_46 rfl rfl (by decide) dX8_paste_12 ?_
    refine lv_iload_n hx hb dX8_paste_15 rfl (lv_at hl 3 rfl) ?_
    refine r_Vi (As := [.int a_c]) (rest := []) X hT hS (k_X5_isSlot_61 hR a_c) mk_X5_isSlot gm_1056 rfl rfl (by decide) hd_X5_isSlot ⟨rfl, rfl⟩ ⟨Nat.le_of_ble_eq_true rfl, Nat.le_of_ble_eq_true rfl⟩ hl.1 rfl (Nat.le_of_ble_eq_true rfl) dX8_paste_16 ⟨Nat.zero_le _, Nat.zero_le _⟩ (fun r4 i4 g4 H locs hq hT hS => ?_)
    rcases hq with hq | hq
    ·
      obtain ⟨eh4, rfl, hf4_0⟩ := hq
      rw [(Prod.mk.inj eh4).1, (Prod.mk.inj eh4).2] at hT
      have h5 : rg 0 3 a_c := ⟨by have := (rg_top a_c).1; have := hf4_0.1; omega, by have := (rg_top a_c).2; have := hf4_0.2; omega⟩
      refine lv_if_ne (tgt := 25) hx hb dX8_paste_19 (by decide) (fun c6 => ?_) (fun c6 => (x_eq (rg_k (by decide) : rg 1 1 1) (rg_k (by decide) : rg 0 0 0) (i_eq c6) (by decide)).elim)
      refine lv_aload_n hx hb dX8_paste_25 rfl (lv_at hl 0 rfl) ?_
      refine r_getr X hT 0 6 61 fk_8_46 rfl rfl (by decide) dX8_paste_26 ?_
      refine lv_iload_n hx hb dX8_paste_29 rfl (lv_at hl 1 rfl) ?_
      refine r_Vi (As := [.int a_a]) (rest := []) X hT hS (k_X5_isBare_61 hR a_a h2) mk_X5_isBare gm_1060 rfl rfl (by decide) hd_X5_isBare ⟨rfl, rfl⟩ ⟨Nat.le_of_ble_eq_true rfl, Nat.le_of_ble_eq_true rfl⟩ hl.1 rfl (Nat.le_of_ble_eq_true rfl) dX8_paste_30 ⟨Nat.zero_le _, Nat.zero_le _⟩ (fun r7 i7 g7 H locs hq hT hS => ?_)
      obtain ⟨eh7, rfl⟩ := hq
      rw [(Prod.mk.inj eh7).1, (Prod.mk.inj eh7).2] at hT
      refine lv_if_ne (tgt := 47) hx hb dX8_paste_33 (by decide) (fun c8 => ?_) (fun c8 => (x_eq (rg_k (by decide) : rg 1 1 1) (rg_k (by decide) : rg 0 0 0) (i_eq c8) (by decide)).elim)
      refine lv_bipush (v := (-6)) hx hb dX8_paste_47 (by decide) ?_
      exact hret (-6) _ _ _ _ _ _ dX8_paste_49 hT hS (Or.inl ⟨rfl, rfl, (by have := h2.1; have := h2.2; have := h5.1; have := h5.2; omega)⟩)
    ·
      obtain ⟨eh4, rfl, hf4_0⟩ := hq
      rw [(Prod.mk.inj eh4).1, (Prod.mk.inj eh4).2] at hT
      refine lv_if_ne (tgt := 25) hx hb dX8_paste_19 (by decide) (fun c9 => (x_ne (rg_k (by decide) : rg 0 0 0) (rg_k (by decide) : rg 0 0 0) (i_ne c9) (by decide)).elim) (fun c9 => ?_)
      refine lv_bipush (v := (-2)) hx hb dX8_paste_22 (by decide) ?_
      exact hret (-2) _ _ _ _ _ _ dX8_paste_24 hT hS (Or.inr ⟨rfl, rfl, (by have := h2.1; have := h2.2; omega)⟩)
  ·
    obtain ⟨eh1, rfl, hf1_0⟩ := hq
    rw [(Prod.mk.inj eh1).1, (Prod.mk.inj eh1).2] at hT
    refine lv_if_eq (tgt := 22) hx hb dX8_paste_8 (by decide) (fun c10 => ?_) (fun c10 => (x_ne (rg_k (by decide) : rg 0 0 0) (rg_k (by decide) : rg 0 0 0) (i_ne c10) (by decide)).elim)
    refine lv_bipush (v := (-2)) hx hb dX8_paste_22 (by decide) ?_
    exact hret (-2) _ _ _ _ _ _ dX8_paste_24 hT hS (Or.inr ⟨rfl, rfl, (by omega)⟩)

set_option maxRecDepth 100000 in
set_option maxHeartbeats 4000000 in
theorem k_X7_hasRoomForFive_1 {l : Launch} {D : va_G} {h : Nat → Nat} {cz : Nat → ClassId} {i : Nat → Nat → Int32} {g : Nat → Nat → Int64} (hR : Rg rL i) (hz : rg 0 680 (i 1 1)) : CtI l yX7_hasRoomForFive cX7_hasRoomForFive 1 (some .boolean) ({ frames := 0, cells := 0, slots := 0, locals := 0 } : Room) D h cz i g [.ref (h 1)] (fun r u => u = (i, g) ∧ r = 1) := by
  refine k_Z (by intro v u hq; obtain ⟨-, hq⟩ := hq; exact Or.inr hq) pn_X7_hasRoomForFive (Nat.le_of_ble_eq_true rfl) ?_
  intro p e s m args below meth c ls Q X hret hT hl hS
  have hx := X.1
  have hb := X.2.1
  have hl : lv_has ls 1 [(0, .ref (h 1))] := hl
  refine lv_aload_n hx hb dX7_hasRoomForFive_0 rfl (lv_at hl 0 rfl) ?_
  refine r_geti X hT 1 1 fk_7_15 rfl rfl (by decide) dX7_hasRoomForFive_1 ?_
  refine lv_bipush (v := 20) hx hb dX7_hasRoomForFive_4 (by decide) ?_
  refine q_iadd hx hb dX7_hasRoomForFive_6 (fun x1 ex1 => ?_)
  obtain ⟨hx1, ax1⟩ := rg_add 20 700 ex1 hz (rg_k (by decide) : rg 20 20 20) (by decide)
  replace ax1 : x1.toInt = (i 1 1).toInt + 20 := ax1
  refine lv_sipush (v := 700) hx hb dX7_hasRoomForFive_7 (by decide) ?_
  refine lv_icmp_gt (tgt := 17) hx hb dX7_hasRoomForFive_10 (by decide) (fun c2 => (x_lt (rg_k (by decide) : rg 700 700 700) hx1 (i_lt c2) (by decide)).elim) (fun c2 => ?_)
  have q2 : x1.toInt ≤ 700 := i_nlt c2
  refine lv_iconst (v := 1) hx hb dX7_hasRoomForFive_13 (by decide) ?_
  refine lv_goto (tgt := 18) hx hb dX7_hasRoomForFive_14 (by decide) ?_
  exact hret 1 _ _ _ _ _ _ dX7_hasRoomForFive_18 hT hS ⟨rfl, rfl⟩

set_option maxRecDepth 100000 in
set_option maxHeartbeats 4000000 in
theorem k_X7_append_1 {l : Launch} {D : va_G} {h : Nat → Nat} {cz : Nat → ClassId} {i : Nat → Nat → Int32} {g : Nat → Nat → Int64} (hR : Rg rL i) (a_a : Int32) (hz : rg 0 696 (i 1 1)) : CtV l yX7_append cX7_append 3 none ({ frames := 0, cells := 0, slots := 0, locals := 0 } : Room) D h cz i g [.ref (h 1), .int a_a] (fun u => Rg rL u.1 ∧ (u.1 1 1).toInt = (i 1 1).toInt + 4) := by
  refine k_V pn_X7_append (Nat.le_of_ble_eq_true rfl) ?_
  intro p e s m args below meth c ls Q X hret hT hl hS
  have hx := X.1
  have hb := X.2.1
  have hl : lv_has ls 3 [(0, .ref (h 1)), (1, .int a_a)] := hl
  refine lv_bipush (v := 24) hx hb dX7_append_0 (by decide) ?_
  refine lv_istore_n (lv' := [(2, .int 24), (0, .ref (h 1)), (1, .int a_a)]) hx hb dX7_append_2 rfl hl (by decide) rfl (fun ls hl => ?_)
  refine lv_iload_n hx hb dX7_append_3 rfl (lv_at hl 0 rfl) ?_
  refine lv_if_lt (tgt := 46) hx hb dX7_append_4 (by decide) (fun c1 => (x_lt (rg_k (by decide) : rg 24 24 24) (rg_k (by decide) : rg 0 0 0) (i_lt c1) (by decide)).elim) (fun c1 => ?_)
  refine lv_aload_n hx hb dX7_append_7 rfl (lv_at hl 1 rfl) ?_
  refine r_geti X hT 1 1 fk_7_15 rfl rfl (by decide) dX7_append_8 ?_
  refine lv_sipush (v := 700) hx hb dX7_append_11 (by decide) ?_
  refine lv_icmp_ge (tgt := 46) hx hb dX7_append_14 (by decide) (fun c2 => (x_le (rg_k (by decide) : rg 700 700 700) hz (i_le c2) (by decide)).elim) (fun c2 => ?_)
  have q2 : (i 1 1).toInt < 700 := i_nle c2
  refine lv_aload_n hx hb dX7_append_17 rfl (lv_at hl 1 rfl) ?_
  refine r_getr X hT 1 0 2 fk_7_9 rfl rfl (by decide) dX7_append_18 ?_
  refine lv_aload_n hx hb dX7_append_21 rfl (lv_at hl 1 rfl) ?_
  refine r_geti X hT 1 1 fk_7_15 rfl rfl (by decide) dX7_append_22 ?_
  refine lv_iload_n hx hb dX7_append_25 rfl (lv_at hl 2 rfl) ?_
  refine lv_iload_n hx hb dX7_append_26 rfl (lv_at hl 0 rfl) ?_
  refine q_ishr hx hb dX7_append_27 (fun x3 ex3 => ?_)
  refine q_i2b hx hb dX7_append_28 (fun x4 ex4 => ?_)
  refine r_bast X hT hS 2 rfl (by decide) (v_in hz (by decide)) dX7_append_29 (fun H locs i5 ei5 hT hS => ?_)
  have z5_1_1 : i5 1 1 = (i 1 1) := z_j ei5 rfl (by decide)
  have hR5 := Rg_put hR ei5 (-128) 127 rfl (rg_nb x4) (by decide)
  refine lv_aload_n hx hb dX7_append_30 rfl (lv_at hl 1 rfl) ?_
  refine lv_dup hx hb dX7_append_31 rfl ?_
  refine r_geti X hT 1 1 fk_7_15 rfl rfl (by decide) dX7_append_32 ?_
  rw [z5_1_1]
  refine lv_iconst (v := 1) hx hb dX7_append_35 (by decide) ?_
  refine q_iadd hx hb dX7_append_36 (fun x6 ex6 => ?_)
  obtain ⟨hx6, ax6⟩ := rg_add 1 697 ex6 hz (rg_k (by decide) : rg 1 1 1) (by decide)
  replace ax6 : x6.toInt = (i 1 1).toInt + 1 := ax6
  refine r_puti X hT hS 1 1 pk_7_15 rfl rfl rfl rfl (by decide) dX7_append_37 (fun H locs i7 ei7 hT hS => ?_)
  have z7_1_1 : i7 1 1 = x6 := z_s ei7
  have hR7 := Rg_put hR5 ei7 0 700 rfl hx6 (by decide)
  obtain ⟨x8, ex8⟩ : ∃ y : Int32, y = 24 + (-8) := ⟨_, rfl⟩
  refine lv_iinc (v := x8) (lv' := [(2, .int x8), (0, .ref (h 1)), (1, .int a_a)]) hx hb dX7_append_40 hl (k := 0) rfl (by rw [ex8]; rfl) (by decide) rfl (fun ls hl => ?_)
  obtain ⟨hx8, ax8⟩ := rg_add 16 16 ex8 (rg_k (by decide) : rg 24 24 24) (rg_k (by decide) : rg (-8) (-8) (-8)) (by decide)
  replace ax8 : x8.toInt = 24 + (-8) := ax8
  refine lv_goto (tgt := 3) hx hb dX7_append_43 (by decide) ?_
  refine lv_iload_n hx hb dX7_append_3 rfl (lv_at hl 0 rfl) ?_
  refine lv_if_lt (tgt := 46) hx hb dX7_append_4 (by decide) (fun c9 => (x_lt hx8 (rg_k (by decide) : rg 0 0 0) (i_lt c9) (by decide)).elim) (fun c9 => ?_)
  have q9 : 0 ≤ x8.toInt := i_nlt c9
  refine lv_aload_n hx hb dX7_append_7 rfl (lv_at hl 1 rfl) ?_
  refine r_geti X hT 1 1 fk_7_15 rfl rfl (by decide) dX7_append_8 ?_
  rw [z7_1_1]
  refine lv_sipush (v := 700) hx hb dX7_append_11 (by decide) ?_
  refine lv_icmp_ge (tgt := 46) hx hb dX7_append_14 (by decide) (fun c10 => (x_le (rg_k (by decide) : rg 700 700 700) hx6 (i_le c10) (by decide)).elim) (fun c10 => ?_)
  have q10 : x6.toInt < 700 := i_nle c10
  refine lv_aload_n hx hb dX7_append_17 rfl (lv_at hl 1 rfl) ?_
  refine r_getr X hT 1 0 2 fk_7_9 rfl rfl (by decide) dX7_append_18 ?_
  refine lv_aload_n hx hb dX7_append_21 rfl (lv_at hl 1 rfl) ?_
  refine r_geti X hT 1 1 fk_7_15 rfl rfl (by decide) dX7_append_22 ?_
  rw [z7_1_1]
  refine lv_iload_n hx hb dX7_append_25 rfl (lv_at hl 2 rfl) ?_
  refine lv_iload_n hx hb dX7_append_26 rfl (lv_at hl 0 rfl) ?_
  refine q_ishr hx hb dX7_append_27 (fun x11 ex11 => ?_)
  refine q_i2b hx hb dX7_append_28 (fun x12 ex12 => ?_)
  refine r_bast X hT hS 2 rfl (by decide) (v_in hx6 (by decide)) dX7_append_29 (fun H locs i13 ei13 hT hS => ?_)
  have z13_1_1 : i13 1 1 = x6 := z_j ei13 z7_1_1 (by decide)
  have hR13 := Rg_put hR7 ei13 (-128) 127 rfl (rg_nb x12) (by decide)
  refine lv_aload_n hx hb dX7_append_30 rfl (lv_at hl 1 rfl) ?_
  refine lv_dup hx hb dX7_append_31 rfl ?_
  refine r_geti X hT 1 1 fk_7_15 rfl rfl (by decide) dX7_append_32 ?_
  rw [z13_1_1]
  refine lv_iconst (v := 1) hx hb dX7_append_35 (by decide) ?_
  refine q_iadd hx hb dX7_append_36 (fun x14 ex14 => ?_)
  obtain ⟨hx14, ax14⟩ := rg_add 2 698 ex14 hx6 (rg_k (by decide) : rg 1 1 1) (by decide)
  replace ax14 : x14.toInt = x6.toInt + 1 := ax14
  refine r_puti X hT hS 1 1 pk_7_15 rfl rfl rfl rfl (by decide) dX7_append_37 (fun H locs i15 ei15 hT hS => ?_)
  have z15_1_1 : i15 1 1 = x14 := z_s ei15
  have hR15 := Rg_put hR13 ei15 0 700 rfl hx14 (by decide)
  obtain ⟨x16, ex16⟩ : ∃ y : Int32, y = x8 + (-8) := ⟨_, rfl⟩
  refine lv_iinc (v := x16) (lv' := [(2, .int x16), (0, .ref (h 1)), (1, .int a_a)]) hx hb dX7_append_40 hl (k := 0) rfl (by rw [ex16]; rfl) (by decide) rfl (fun ls hl => ?_)
  obtain ⟨hx16, ax16⟩ := rg_add 8 8 ex16 hx8 (rg_k (by decide) : rg (-8) (-8) (-8)) (by decide)
  replace ax16 : x16.toInt = x8.toInt + (-8) := ax16
  refine lv_goto (tgt := 3) hx hb dX7_append_43 (by decide) ?_
  refine lv_iload_n hx hb dX7_append_3 rfl (lv_at hl 0 rfl) ?_
  refine lv_if_lt (tgt := 46) hx hb dX7_append_4 (by decide) (fun c17 => (x_lt hx16 (rg_k (by decide) : rg 0 0 0) (i_lt c17) (by decide)).elim) (fun c17 => ?_)
  have q17 : 0 ≤ x16.toInt := i_nlt c17
  refine lv_aload_n hx hb dX7_append_7 rfl (lv_at hl 1 rfl) ?_
  refine r_geti X hT 1 1 fk_7_15 rfl rfl (by decide) dX7_append_8 ?_
  rw [z15_1_1]
  refine lv_sipush (v := 700) hx hb dX7_append_11 (by decide) ?_
  refine lv_icmp_ge (tgt := 46) hx hb dX7_append_14 (by decide) (fun c18 => (x_le (rg_k (by decide) : rg 700 700 700) hx14 (i_le c18) (by decide)).elim) (fun c18 => ?_)
  have q18 : x14.toInt < 700 := i_nle c18
  refine lv_aload_n hx hb dX7_append_17 rfl (lv_at hl 1 rfl) ?_
  refine r_getr X hT 1 0 2 fk_7_9 rfl rfl (by decide) dX7_append_18 ?_
  refine lv_aload_n hx hb dX7_append_21 rfl (lv_at hl 1 rfl) ?_
  refine r_geti X hT 1 1 fk_7_15 rfl rfl (by decide) dX7_append_22 ?_
  rw [z15_1_1]
  refine lv_iload_n hx hb dX7_append_25 rfl (lv_at hl 2 rfl) ?_
  refine lv_iload_n hx hb dX7_append_26 rfl (lv_at hl 0 rfl) ?_
  refine q_ishr hx hb dX7_append_27 (fun x19 ex19 => ?_)
  refine q_i2b hx hb dX7_append_28 (fun x20 ex20 => ?_)
  refine r_bast X hT hS 2 rfl (by decide) (v_in hx14 (by decide)) dX7_append_29 (fun H locs i21 ei21 hT hS => ?_)
  have z21_1_1 : i21 1 1 = x14 := z_j ei21 z15_1_1 (by decide)
  have hR21 := Rg_put hR15 ei21 (-128) 127 rfl (rg_nb x20) (by decide)
  refine lv_aload_n hx hb dX7_append_30 rfl (lv_at hl 1 rfl) ?_
  refine lv_dup hx hb dX7_append_31 rfl ?_
  refine r_geti X hT 1 1 fk_7_15 rfl rfl (by decide) dX7_append_32 ?_
  rw [z21_1_1]
  refine lv_iconst (v := 1) hx hb dX7_append_35 (by decide) ?_
  refine q_iadd hx hb dX7_append_36 (fun x22 ex22 => ?_)
  obtain ⟨hx22, ax22⟩ := rg_add 3 699 ex22 hx14 (rg_k (by decide) : rg 1 1 1) (by decide)
  replace ax22 : x22.toInt = x14.toInt + 1 := ax22
  refine r_puti X hT hS 1 1 pk_7_15 rfl rfl rfl rfl (by decide) dX7_append_37 (fun H locs i23 ei23 hT hS => ?_)
  have z23_1_1 : i23 1 1 = x22 := z_s ei23
  have hR23 := Rg_put hR21 ei23 0 700 rfl hx22 (by decide)
  obtain ⟨x24, ex24⟩ : ∃ y : Int32, y = x16 + (-8) := ⟨_, rfl⟩
  refine lv_iinc (v := x24) (lv' := [(2, .int x24), (0, .ref (h 1)), (1, .int a_a)]) hx hb dX7_append_40 hl (k := 0) rfl (by rw [ex24]; rfl) (by decide) rfl (fun ls hl => ?_)
  obtain ⟨hx24, ax24⟩ := rg_add 0 0 ex24 hx16 (rg_k (by decide) : rg (-8) (-8) (-8)) (by decide)
  replace ax24 : x24.toInt = x16.toInt + (-8) := ax24
  refine lv_goto (tgt := 3) hx hb dX7_append_43 (by decide) ?_
  refine lv_iload_n hx hb dX7_append_3 rfl (lv_at hl 0 rfl) ?_
  refine lv_if_lt (tgt := 46) hx hb dX7_append_4 (by decide) (fun c25 => (x_lt hx24 (rg_k (by decide) : rg 0 0 0) (i_lt c25) (by decide)).elim) (fun c25 => ?_)
  have q25 : 0 ≤ x24.toInt := i_nlt c25
  refine lv_aload_n hx hb dX7_append_7 rfl (lv_at hl 1 rfl) ?_
  refine r_geti X hT 1 1 fk_7_15 rfl rfl (by decide) dX7_append_8 ?_
  rw [z23_1_1]
  refine lv_sipush (v := 700) hx hb dX7_append_11 (by decide) ?_
  refine lv_icmp_ge (tgt := 46) hx hb dX7_append_14 (by decide) (fun c26 => (x_le (rg_k (by decide) : rg 700 700 700) hx22 (i_le c26) (by decide)).elim) (fun c26 => ?_)
  have q26 : x22.toInt < 700 := i_nle c26
  refine lv_aload_n hx hb dX7_append_17 rfl (lv_at hl 1 rfl) ?_
  refine r_getr X hT 1 0 2 fk_7_9 rfl rfl (by decide) dX7_append_18 ?_
  refine lv_aload_n hx hb dX7_append_21 rfl (lv_at hl 1 rfl) ?_
  refine r_geti X hT 1 1 fk_7_15 rfl rfl (by decide) dX7_append_22 ?_
  rw [z23_1_1]
  refine lv_iload_n hx hb dX7_append_25 rfl (lv_at hl 2 rfl) ?_
  refine lv_iload_n hx hb dX7_append_26 rfl (lv_at hl 0 rfl) ?_
  refine q_ishr hx hb dX7_append_27 (fun x27 ex27 => ?_)
  refine q_i2b hx hb dX7_append_28 (fun x28 ex28 => ?_)
  refine r_bast X hT hS 2 rfl (by decide) (v_in hx22 (by decide)) dX7_append_29 (fun H locs i29 ei29 hT hS => ?_)
  have z29_1_1 : i29 1 1 = x22 := z_j ei29 z23_1_1 (by decide)
  have hR29 := Rg_put hR23 ei29 (-128) 127 rfl (rg_nb x28) (by decide)
  refine lv_aload_n hx hb dX7_append_30 rfl (lv_at hl 1 rfl) ?_
  refine lv_dup hx hb dX7_append_31 rfl ?_
  refine r_geti X hT 1 1 fk_7_15 rfl rfl (by decide) dX7_append_32 ?_
  rw [z29_1_1]
  refine lv_iconst (v := 1) hx hb dX7_append_35 (by decide) ?_
  refine q_iadd hx hb dX7_append_36 (fun x30 ex30 => ?_)
  obtain ⟨hx30, ax30⟩ := rg_add 4 700 ex30 hx22 (rg_k (by decide) : rg 1 1 1) (by decide)
  replace ax30 : x30.toInt = x22.toInt + 1 := ax30
  refine r_puti X hT hS 1 1 pk_7_15 rfl rfl rfl rfl (by decide) dX7_append_37 (fun H locs i31 ei31 hT hS => ?_)
  have z31_1_1 : i31 1 1 = x30 := z_s ei31
  have hR31 := Rg_put hR29 ei31 0 700 rfl hx30 (by decide)
  obtain ⟨x32, ex32⟩ : ∃ y : Int32, y = x24 + (-8) := ⟨_, rfl⟩
  refine lv_iinc (v := x32) (lv' := [(2, .int x32), (0, .ref (h 1)), (1, .int a_a)]) hx hb dX7_append_40 hl (k := 0) rfl (by rw [ex32]; rfl) (by decide) rfl (fun ls hl => ?_)
  obtain ⟨hx32, ax32⟩ := rg_add (-8) (-8) ex32 hx24 (rg_k (by decide) : rg (-8) (-8) (-8)) (by decide)
  replace ax32 : x32.toInt = x24.toInt + (-8) := ax32
  refine lv_goto (tgt := 3) hx hb dX7_append_43 (by decide) ?_
  refine lv_iload_n hx hb dX7_append_3 rfl (lv_at hl 0 rfl) ?_
  refine lv_if_lt (tgt := 46) hx hb dX7_append_4 (by decide) (fun c33 => ?_) (fun c33 => (x_le (rg_k (by decide) : rg 0 0 0) hx32 (i_nlt c33) (by decide)).elim)
  have q33 : x32.toInt < 0 := i_lt c33
  exact hret _ _ _ _ _ _ dX7_append_46 hT hS ⟨hR31, (by show (i31 1 1).toInt = _; rw [z31_1_1]; omega)⟩

set_option maxRecDepth 100000 in
set_option maxHeartbeats 4000000 in
theorem k_X8_feed {l : Launch} {D : va_G} {h : Nat → Nat} {cz : Nat → ClassId} {i : Nat → Nat → Int32} {g : Nat → Nat → Int64} (hR : Rg rL i) (a_a : Int32) (a_b : Int32) (a_c : Int32) (a_d : Int32) (a_e : Int32) (hz : rg 0 0 (i 1 1)) : CtI l yX8_feed cX8_feed 6 (some .int) ({ frames := 1, cells := 0, slots := 0, locals := 22 } : Room) D h cz i g [.ref (h 0), .int a_a, .int a_b, .int a_c, .int a_d, .int a_e] (fun r u => Rg rL u.1 ∧ r = 20) := by
  refine k_I pn_X8_feed (Nat.le_of_ble_eq_true rfl) ?_
  intro p e s m args below meth c ls Q X hret hT hl hS
  have hx := X.1
  have hb := X.2.1
  have hl : lv_has ls 6 [(0, .ref (h 0)), (1, .int a_a), (2, .int a_b), (3, .int a_c), (4, .int a_d), (5, .int a_e)] := hl
  refine lv_aload_n hx hb dX8_feed_0 rfl (lv_at hl 0 rfl) ?_
  refine r_getr X hT 0 0 1 fk_8_10 rfl rfl (by decide) dX8_feed_1 ?_
  refine r_Vi (As := []) (rest := []) X hT hS (k_X7_hasRoomForFive_1 hR (rg_w hz (by decide) : rg 0 680 (i 1 1))) mk_X7_hasRoomForFive gm_493 rfl rfl (by decide) hd_X7_hasRoomForFive ⟨rfl, rfl⟩ ⟨Nat.le_of_ble_eq_true rfl, Nat.le_of_ble_eq_true rfl⟩ hl.1 rfl (Nat.le_of_ble_eq_true rfl) dX8_feed_4 ⟨Nat.zero_le _, Nat.zero_le _⟩ (fun r1 i1 g1 H locs hq hT hS => ?_)
  obtain ⟨eh1, rfl⟩ := hq
  rw [(Prod.mk.inj eh1).1, (Prod.mk.inj eh1).2] at hT
  refine lv_if_ne (tgt := 12) hx hb dX8_feed_7 (by decide) (fun c2 => ?_) (fun c2 => (x_eq (rg_k (by decide) : rg 1 1 1) (rg_k (by decide) : rg 0 0 0) (i_eq c2) (by decide)).elim)
  refine lv_aload_n hx hb dX8_feed_12 rfl (lv_at hl 0 rfl) ?_
  refine r_getr X hT 0 0 1 fk_8_10 rfl rfl (by decide) dX8_feed_13 ?_
  refine lv_iload_n hx hb dX8_feed_16 rfl (lv_at hl 1 rfl) ?_
  refine r_Vv (As := [.int a_a]) (rest := []) X hT hS (k_X7_append_1 hR a_a (rg_w hz (by decide) : rg 0 696 (i 1 1))) mk_X7_append gm_497 rfl rfl (by decide) hd_X7_append ⟨rfl, rfl⟩ ⟨Nat.le_of_ble_eq_true rfl, Nat.le_of_ble_eq_true rfl⟩ hl.1 rfl (Nat.le_of_ble_eq_true rfl) dX8_feed_17 ⟨Nat.zero_le _, Nat.zero_le _⟩ (fun i3 g3 H locs hq hT hS => ?_)
  obtain ⟨hR3, hf3_0⟩ := hq
  replace hf3_0 : (i3 1 1).toInt = (i 1 1).toInt + 4 := hf3_0
  have h4 : rg 4 4 (i3 1 1) := ⟨by have := hz.1; have := hf3_0; omega, by have := hz.2; have := hf3_0; omega⟩
  refine lv_aload_n hx hb dX8_feed_20 rfl (lv_at hl 0 rfl) ?_
  refine r_getr X hT 0 0 1 fk_8_10 rfl rfl (by decide) dX8_feed_21 ?_
  refine lv_iload_n hx hb dX8_feed_24 rfl (lv_at hl 2 rfl) ?_
  refine r_Vv (As := [.int a_b]) (rest := []) X hT hS (k_X7_append_1 hR3 a_b (rg_w h4 (by decide) : rg 0 696 (i3 1 1))) mk_X7_append gm_497 rfl rfl (by decide) hd_X7_append ⟨rfl, rfl⟩ ⟨Nat.le_of_ble_eq_true rfl, Nat.le_of_ble_eq_true rfl⟩ hl.1 rfl (Nat.le_of_ble_eq_true rfl) dX8_feed_25 ⟨Nat.zero_le _, Nat.zero_le _⟩ (fun i5 g5 H locs hq hT hS => ?_)
  obtain ⟨hR5, hf5_0⟩ := hq
  replace hf5_0 : (i5 1 1).toInt = (i3 1 1).toInt + 4 := hf5_0
  have h6 : rg 8 8 (i5 1 1) := ⟨by have := h4.1; have := hf5_0; omega, by have := h4.2; have := hf5_0; omega⟩
  refine lv_aload_n hx hb dX8_feed_28 rfl (lv_at hl 0 rfl) ?_
  refine r_getr X hT 0 0 1 fk_8_10 rfl rfl (by decide) dX8_feed_29 ?_
  refine lv_iload_n hx hb dX8_feed_32 rfl (lv_at hl 3 rfl) ?_
  refine r_Vv (As := [.int a_c]) (rest := []) X hT hS (k_X7_append_1 hR5 a_c (rg_w h6 (by decide) : rg 0 696 (i5 1 1))) mk_X7_append gm_497 rfl rfl (by decide) hd_X7_append ⟨rfl, rfl⟩ ⟨Nat.le_of_ble_eq_true rfl, Nat.le_of_ble_eq_true rfl⟩ hl.1 rfl (Nat.le_of_ble_eq_true rfl) dX8_feed_33 ⟨Nat.zero_le _, Nat.zero_le _⟩ (fun i7 g7 H locs hq hT hS => ?_)
  obtain ⟨hR7, hf7_0⟩ := hq
  replace hf7_0 : (i7 1 1).toInt = (i5 1 1).toInt + 4 := hf7_0
  have h8 : rg 12 12 (i7 1 1) := ⟨by have := h6.1; have := hf7_0; omega, by have := h6.2; have := hf7_0; omega⟩
  refine lv_aload_n hx hb dX8_feed_36 rfl (lv_at hl 0 rfl) ?_
  refine r_getr X hT 0 0 1 fk_8_10 rfl rfl (by decide) dX8_feed_37 ?_
  refine lv_iload hx hb dX8_feed_40 (lv_at hl 4 rfl) ?_
  refine r_Vv (As := [.int a_d]) (rest := []) X hT hS (k_X7_append_1 hR7 a_d (rg_w h8 (by decide) : rg 0 696 (i7 1 1))) mk_X7_append gm_497 rfl rfl (by decide) hd_X7_append ⟨rfl, rfl⟩ ⟨Nat.le_of_ble_eq_true rfl, Nat.le_of_ble_eq_true rfl⟩ hl.1 rfl (Nat.le_of_ble_eq_true rfl) dX8_feed_42 ⟨Nat.zero_le _, Nat.zero_le _⟩ (fun i9 g9 H locs hq hT hS => ?_)
  obtain ⟨hR9, hf9_0⟩ := hq
  replace hf9_0 : (i9 1 1).toInt = (i7 1 1).toInt + 4 := hf9_0
  have h10 : rg 16 16 (i9 1 1) := ⟨by have := h8.1; have := hf9_0; omega, by have := h8.2; have := hf9_0; omega⟩
  refine lv_aload_n hx hb dX8_feed_45 rfl (lv_at hl 0 rfl) ?_
  refine r_getr X hT 0 0 1 fk_8_10 rfl rfl (by decide) dX8_feed_46 ?_
  refine lv_iload hx hb dX8_feed_49 (lv_at hl 5 rfl) ?_
  refine r_Vv (As := [.int a_e]) (rest := []) X hT hS (k_X7_append_1 hR9 a_e (rg_w h10 (by decide) : rg 0 696 (i9 1 1))) mk_X7_append gm_497 rfl rfl (by decide) hd_X7_append ⟨rfl, rfl⟩ ⟨Nat.le_of_ble_eq_true rfl, Nat.le_of_ble_eq_true rfl⟩ hl.1 rfl (Nat.le_of_ble_eq_true rfl) dX8_feed_51 ⟨Nat.zero_le _, Nat.zero_le _⟩ (fun i11 g11 H locs hq hT hS => ?_)
  obtain ⟨hR11, hf11_0⟩ := hq
  replace hf11_0 : (i11 1 1).toInt = (i9 1 1).toInt + 4 := hf11_0
  have h12 : rg 20 20 (i11 1 1) := ⟨by have := h10.1; have := hf11_0; omega, by have := h10.2; have := hf11_0; omega⟩
  refine lv_aload_n hx hb dX8_feed_54 rfl (lv_at hl 0 rfl) ?_
  refine r_getr X hT 0 0 1 fk_8_10 rfl rfl (by decide) dX8_feed_55 ?_
  refine r_geti X hT 1 1 fk_8_106 rfl rfl (by decide) dX8_feed_58 ?_
  exact hret (i11 1 1) _ _ _ _ _ _ dX8_feed_61 hT hS ⟨hR11, (rg_c h12)⟩

set_option maxRecDepth 100000 in
set_option maxHeartbeats 4000000 in
theorem k_X6_clear_3 {l : Launch} {D : va_G} {h : Nat → Nat} {cz : Nat → ClassId} {i : Nat → Nat → Int32} {g : Nat → Nat → Int64} (hR : Rg rF i)  : CtV l yX6_clear cX6_clear 1 none ({ frames := 0, cells := 0, slots := 0, locals := 0 } : Room) D h cz i g [.ref (h 3)] (fun u => Rg rF u.1) := by
  refine k_V pn_X6_clear (Nat.le_of_ble_eq_true rfl) ?_
  intro p e s m args below meth c ls Q X hret hT hl hS
  have hx := X.1
  have hb := X.2.1
  have hl : lv_has ls 1 [(0, .ref (h 3))] := hl
  refine lv_aload_n hx hb dX6_clear_0 rfl (lv_at hl 0 rfl) ?_
  refine lv_iconst (v := 0) hx hb dX6_clear_1 (by decide) ?_
  refine r_puti X hT hS 3 10 pk_6_42 rfl rfl rfl rfl (by decide) dX6_clear_2 (fun H locs i1 ei1 hT hS => ?_)
  have hR1 := Rg_put hR ei1 0 0 rfl (rg_k (by decide) : rg 0 0 0) (by decide)
  refine lv_aload_n hx hb dX6_clear_5 rfl (lv_at hl 0 rfl) ?_
  refine lv_iconst (v := 0) hx hb dX6_clear_6 (by decide) ?_
  refine r_puti X hT hS 3 11 pk_6_46 rfl rfl rfl rfl (by decide) dX6_clear_7 (fun H locs i2 ei2 hT hS => ?_)
  have hR2 := Rg_put hR1 ei2 0 0 rfl (rg_k (by decide) : rg 0 0 0) (by decide)
  refine lv_aload_n hx hb dX6_clear_10 rfl (lv_at hl 0 rfl) ?_
  refine lv_iconst (v := 0) hx hb dX6_clear_11 (by decide) ?_
  refine r_puti X hT hS 3 12 pk_6_49 rfl rfl rfl rfl (by decide) dX6_clear_12 (fun H locs i3 ei3 hT hS => ?_)
  have hR3 := Rg_put hR2 ei3 0 0 rfl (rg_k (by decide) : rg 0 0 0) (by decide)
  refine lv_aload_n hx hb dX6_clear_15 rfl (lv_at hl 0 rfl) ?_
  refine lv_iconst (v := 0) hx hb dX6_clear_16 (by decide) ?_
  refine r_puti X hT hS 3 13 pk_6_52 rfl rfl rfl rfl (by decide) dX6_clear_17 (fun H locs i4 ei4 hT hS => ?_)
  have hR4 := Rg_put hR3 ei4 0 0 rfl (rg_k (by decide) : rg 0 0 0) (by decide)
  refine lv_aload_n hx hb dX6_clear_20 rfl (lv_at hl 0 rfl) ?_
  refine lv_iconst (v := 0) hx hb dX6_clear_21 (by decide) ?_
  refine r_puti X hT hS 3 14 pk_6_55 rfl rfl rfl rfl (by decide) dX6_clear_22 (fun H locs i5 ei5 hT hS => ?_)
  have hR5 := Rg_put hR4 ei5 0 0 rfl (rg_k (by decide) : rg 0 0 0) (by decide)
  refine lv_aload_n hx hb dX6_clear_25 rfl (lv_at hl 0 rfl) ?_
  refine lv_iconst (v := 0) hx hb dX6_clear_26 (by decide) ?_
  refine r_puti X hT hS 3 15 pk_6_58 rfl rfl rfl rfl (by decide) dX6_clear_27 (fun H locs i6 ei6 hT hS => ?_)
  have hR6 := Rg_put hR5 ei6 0 0 rfl (rg_k (by decide) : rg 0 0 0) (by decide)
  refine lv_aload_n hx hb dX6_clear_30 rfl (lv_at hl 0 rfl) ?_
  refine lv_iconst (v := 0) hx hb dX6_clear_31 (by decide) ?_
  refine r_puti X hT hS 3 16 pk_6_61 rfl rfl rfl rfl (by decide) dX6_clear_32 (fun H locs i7 ei7 hT hS => ?_)
  have hR7 := Rg_put hR6 ei7 0 0 rfl (rg_k (by decide) : rg 0 0 0) (by decide)
  refine lv_aload_n hx hb dX6_clear_35 rfl (lv_at hl 0 rfl) ?_
  refine lv_iconst (v := 0) hx hb dX6_clear_36 (by decide) ?_
  refine r_puti X hT hS 3 17 pk_6_64 rfl rfl rfl rfl (by decide) dX6_clear_37 (fun H locs i8 ei8 hT hS => ?_)
  have hR8 := Rg_put hR7 ei8 0 0 rfl (rg_k (by decide) : rg 0 0 0) (by decide)
  exact hret _ _ _ _ _ _ dX6_clear_40 hT hS hR8

set_option maxRecDepth 100000 in
set_option maxHeartbeats 4000000 in
theorem k_X7_at_1 {l : Launch} {D : va_G} {h : Nat → Nat} {cz : Nat → ClassId} {i : Nat → Nat → Int32} {g : Nat → Nat → Int64} (hR : Rg rF i) (a_a : Int32) : CtI l yX7_at cX7_at 2 (some .int) ({ frames := 0, cells := 0, slots := 0, locals := 0 } : Room) D h cz i g [.ref (h 1), .int a_a] (fun r u => u = (i, g) ∧ r = (-1)) := by
  refine k_I pn_X7_at (Nat.le_of_ble_eq_true rfl) ?_
  intro p e s m args below meth c ls Q X hret hT hl hS
  have hx := X.1
  have hb := X.2.1
  have hl : lv_has ls 2 [(0, .ref (h 1)), (1, .int a_a)] := hl
  refine lv_iload_n hx hb dX7_at_0 rfl (lv_at hl 1 rfl) ?_
  refine lv_if_lt (tgt := 25) hx hb dX7_at_1 (by decide) (fun c1 => ?_) (fun c1 => ?_)
  ·
    have q1 : a_a.toInt < 0 := i_lt c1
    have h2 : rg (-2147483648) (-1) a_a := t_ltx (-2147483648) (-1) (rg_top a_a) (rg_k (by decide) : rg 0 0 0) (i_lt c1) (by decide)
    refine lv_iconst (v := (-1)) hx hb dX7_at_25 (by decide) ?_
    exact hret (-1) _ _ _ _ _ _ dX7_at_26 hT hS ⟨rfl, rfl⟩
  ·
    have q1 : 0 ≤ a_a.toInt := i_nlt c1
    have h3 : rg 0 2147483647 a_a := t_ley 0 2147483647 (rg_k (by decide) : rg 0 0 0) (rg_top a_a) (i_nlt c1) (by decide)
    refine lv_iload_n hx hb dX7_at_4 rfl (lv_at hl 1 rfl) ?_
    refine lv_aload_n hx hb dX7_at_5 rfl (lv_at hl 0 rfl) ?_
    refine r_geti X hT 1 1 fk_7_15 rfl rfl (by decide) dX7_at_6 ?_
    refine lv_icmp_ge (tgt := 25) hx hb dX7_at_9 (by decide) (fun c4 => ?_) (fun c4 => (x_lt h3 (Rg_at hR 1 1 0 0 (by decide) rfl) (i_nle c4) (by decide)).elim)
    have q4 : (i 1 1).toInt ≤ a_a.toInt := i_le c4
    refine lv_iconst (v := (-1)) hx hb dX7_at_25 (by decide) ?_
    exact hret (-1) _ _ _ _ _ _ dX7_at_26 hT hS ⟨rfl, rfl⟩

set_option maxRecDepth 100000 in
set_option maxHeartbeats 4000000 in
theorem k_kindOf_m1 {l : Launch} {D : va_G} {h : Nat → Nat} {cz : Nat → ClassId} {i : Nat → Nat → Int32} {g : Nat → Nat → Int64}  : CtI l yX3_kindOf cX3_kindOf 1 (some .int) ({ frames := 0, cells := 0, slots := 0, locals := 0 } : Room) D h cz i g [.int (-1)] (fun r u => u = (i, g) ∧ r = 0) := by
  refine k_I pn_X3_kindOf (Nat.le_of_ble_eq_true rfl) ?_
  intro p e s m args below meth c ls Q X hret hT hl hS
  have hx := X.1
  have hb := X.2.1
  have hl : lv_has ls 1 [(0, .int (-1))] := hl
  refine lv_iload_n hx hb dX3_kindOf_0 rfl (lv_at hl 0 rfl) ?_
  refine lv_bipush (v := 97) hx hb dX3_kindOf_1 (by decide) ?_
  refine lv_icmp_lt (tgt := 14) hx hb dX3_kindOf_3 (by decide) (fun c1 => ?_) (fun c1 => (x_le (rg_k (by decide) : rg 97 97 97) (rg_k (by decide) : rg (-1) (-1) (-1)) (i_nlt c1) (by decide)).elim)
  refine lv_iload_n hx hb dX3_kindOf_14 rfl (lv_at hl 0 rfl) ?_
  refine lv_bipush (v := 48) hx hb dX3_kindOf_15 (by decide) ?_
  refine lv_icmp_lt (tgt := 28) hx hb dX3_kindOf_17 (by decide) (fun c2 => ?_) (fun c2 => (x_le (rg_k (by decide) : rg 48 48 48) (rg_k (by decide) : rg (-1) (-1) (-1)) (i_nlt c2) (by decide)).elim)
  refine lv_iload_n hx hb dX3_kindOf_28 rfl (lv_at hl 0 rfl) ?_
  refine lv_bipush (v := 59) hx hb dX3_kindOf_29 (by decide) ?_
  refine lv_icmp_ne (tgt := 36) hx hb dX3_kindOf_31 (by decide) (fun c3 => ?_) (fun c3 => (x_eq (rg_k (by decide) : rg (-1) (-1) (-1)) (rg_k (by decide) : rg 59 59 59) (i_eq c3) (by decide)).elim)
  refine lv_iload_n hx hb dX3_kindOf_36 rfl (lv_at hl 0 rfl) ?_
  refine lv_iconst (v := (-1)) hx hb dX3_kindOf_37 (by decide) ?_
  refine lv_icmp_ne (tgt := 45) hx hb dX3_kindOf_38 (by decide) (fun c4 => (x_ne (rg_k (by decide) : rg (-1) (-1) (-1)) (rg_k (by decide) : rg (-1) (-1) (-1)) (i_ne c4) (by decide)).elim) (fun c4 => ?_)
  refine lv_iconst (v := 0) hx hb dX3_kindOf_41 (by decide) ?_
  refine lv_goto (tgt := 46) hx hb dX3_kindOf_42 (by decide) ?_
  exact hret 0 _ _ _ _ _ _ dX3_kindOf_46 hT hS ⟨rfl, rfl⟩

set_option maxRecDepth 100000 in
set_option maxHeartbeats 4000000 in
theorem k_X3_advance_14 {l : Launch} {D : va_G} {h : Nat → Nat} {cz : Nat → ClassId} {i : Nat → Nat → Int32} {g : Nat → Nat → Int64} (hR : Rg rF i)  : CtV l yX3_advance cX3_advance 3 none ({ frames := 1, cells := 0, slots := 0, locals := 21 } : Room) D h cz i g [.ref (h 14)] (fun u => Rg rF u.1) := by
  refine k_V pn_X3_advance (Nat.le_of_ble_eq_true rfl) ?_
  intro p e s m args below meth c ls Q X hret hT hl hS
  have hx := X.1
  have hb := X.2.1
  have hl : lv_has ls 3 [(0, .ref (h 14))] := hl
  refine lv_aload_n hx hb dX3_advance_0 rfl (lv_at hl 0 rfl) ?_
  refine lv_aload_n hx hb dX3_advance_1 rfl (lv_at hl 0 rfl) ?_
  refine r_geti X hT 14 4 fk_3_31 rfl rfl (by decide) dX3_advance_2 ?_
  refine r_puti X hT hS 14 3 pk_3_137 rfl rfl rfl rfl (by decide) dX3_advance_5 (fun H locs i1 ei1 hT hS => ?_)
  have hR1 := Rg_put hR ei1 0 0 rfl (Rg_at hR 14 4 0 0 (by decide) rfl) (by decide)
  refine lv_aload_n hx hb dX3_advance_8 rfl (lv_at hl 0 rfl) ?_
  refine r_geti X hT 14 3 fk_3_137 rfl rfl (by decide) dX3_advance_9 ?_
  refine lv_aload_n hx hb dX3_advance_12 rfl (lv_at hl 0 rfl) ?_
  refine r_getr X hT 14 0 1 fk_3_15 rfl rfl (by decide) dX3_advance_13 ?_
  refine r_geti X hT 1 1 fk_3_140 rfl rfl (by decide) dX3_advance_16 ?_
  refine lv_icmp_ge (tgt := 67) hx hb dX3_advance_19 (by decide) (fun c2 => ?_) (fun c2 => (x_lt (Rg_at hR1 14 3 0 0 (by decide) rfl) (Rg_at hR1 1 1 0 0 (by decide) rfl) (i_nle c2) (by decide)).elim)
  have q2 : (i1 1 1).toInt ≤ (i1 14 3).toInt := i_le c2
  refine lv_aload_n hx hb dX3_advance_67 rfl (lv_at hl 0 rfl) ?_
  refine lv_aload_n hx hb dX3_advance_68 rfl (lv_at hl 0 rfl) ?_
  refine r_getr X hT 14 0 1 fk_3_15 rfl rfl (by decide) dX3_advance_69 ?_
  refine lv_aload_n hx hb dX3_advance_72 rfl (lv_at hl 0 rfl) ?_
  refine r_geti X hT 14 3 fk_3_137 rfl rfl (by decide) dX3_advance_73 ?_
  refine r_Vi (As := [.int (i1 14 3)]) (rest := [.ref (h 14)]) X hT hS (k_X7_at_1 hR1 (i1 14 3)) mk_X7_at gm_521 rfl rfl (by decide) hd_X7_at ⟨rfl, rfl⟩ ⟨Nat.le_of_ble_eq_true rfl, Nat.le_of_ble_eq_true rfl⟩ hl.1 rfl (Nat.le_of_ble_eq_true rfl) dX3_advance_76 ⟨Nat.zero_le _, Nat.zero_le _⟩ (fun r3 i3 g3 H locs hq hT hS => ?_)
  obtain ⟨eh3, rfl⟩ := hq
  rw [(Prod.mk.inj eh3).1, (Prod.mk.inj eh3).2] at hT
  refine r_Si (As := [.int (-1)]) (rest := [.ref (h 14)]) X hT hS (k_kindOf_m1) sk_X3_kindOf gm_525 hd_X3_kindOf ⟨rfl, rfl⟩ ⟨Nat.le_of_ble_eq_true rfl, Nat.le_of_ble_eq_true rfl⟩ hl.1 rfl (Nat.le_of_ble_eq_true rfl) dX3_advance_79 ⟨Nat.zero_le _, Nat.zero_le _⟩ (fun r4 i4 g4 H locs hq hT hS => ?_)
  obtain ⟨eh4, rfl⟩ := hq
  rw [(Prod.mk.inj eh4).1, (Prod.mk.inj eh4).2] at hT
  refine r_puti X hT hS 14 2 pk_3_37 rfl rfl rfl rfl (by decide) dX3_advance_82 (fun H locs i5 ei5 hT hS => ?_)
  have hR5 := Rg_put hR1 ei5 0 0 rfl (rg_k (by decide) : rg 0 0 0) (by decide)
  refine lv_aload_n hx hb dX3_advance_85 rfl (lv_at hl 0 rfl) ?_
  refine lv_aload_n hx hb dX3_advance_86 rfl (lv_at hl 0 rfl) ?_
  refine r_geti X hT 14 2 fk_3_37 rfl rfl (by decide) dX3_advance_87 ?_
  refine lv_if_ne (tgt := 100) hx hb dX3_advance_90 (by decide) (fun c6 => (x_ne (Rg_at hR5 14 2 0 0 (by decide) rfl) (rg_k (by decide) : rg 0 0 0) (i_ne c6) (by decide)).elim) (fun c6 => ?_)
  have q6 : (i5 14 2).toInt = 0 := i_eq c6
  refine lv_aload_n hx hb dX3_advance_93 rfl (lv_at hl 0 rfl) ?_
  refine r_geti X hT 14 3 fk_3_137 rfl rfl (by decide) dX3_advance_94 ?_
  refine lv_goto (tgt := 106) hx hb dX3_advance_97 (by decide) ?_
  refine r_puti X hT hS 14 4 pk_3_31 rfl rfl rfl rfl (by decide) dX3_advance_106 (fun H locs i7 ei7 hT hS => ?_)
  have hR7 := Rg_put hR5 ei7 0 0 rfl (Rg_at hR5 14 3 0 0 (by decide) rfl) (by decide)
  refine lv_aload_n hx hb dX3_advance_109 rfl (lv_at hl 0 rfl) ?_
  refine r_geti X hT 14 2 fk_3_37 rfl rfl (by decide) dX3_advance_110 ?_
  refine lv_iconst (v := 1) hx hb dX3_advance_113 (by decide) ?_
  refine lv_icmp_eq (tgt := 125) hx hb dX3_advance_114 (by decide) (fun c8 => (x_eq (Rg_at hR7 14 2 0 0 (by decide) rfl) (rg_k (by decide) : rg 1 1 1) (i_eq c8) (by decide)).elim) (fun c8 => ?_)
  have q8 : ¬ (i7 14 2).toInt = 1 := i_ne c8
  refine lv_aload_n hx hb dX3_advance_117 rfl (lv_at hl 0 rfl) ?_
  refine r_geti X hT 14 2 fk_3_37 rfl rfl (by decide) dX3_advance_118 ?_
  refine lv_iconst (v := 2) hx hb dX3_advance_121 (by decide) ?_
  refine lv_icmp_ne (tgt := 129) hx hb dX3_advance_122 (by decide) (fun c9 => ?_) (fun c9 => (x_eq (Rg_at hR7 14 2 0 0 (by decide) rfl) (rg_k (by decide) : rg 2 2 2) (i_eq c9) (by decide)).elim)
  have q9 : ¬ (i7 14 2).toInt = 2 := i_ne c9
  refine lv_iconst (v := 0) hx hb dX3_advance_129 (by decide) ?_
  refine lv_istore_n (lv' := [(1, .int 0), (0, .ref (h 14))]) hx hb dX3_advance_130 rfl hl (by decide) rfl (fun ls hl => ?_)
  refine lv_iload_n hx hb dX3_advance_131 rfl (lv_at hl 0 rfl) ?_
  refine lv_if_eq (tgt := 183) hx hb dX3_advance_132 (by decide) (fun c10 => ?_) (fun c10 => (x_ne (rg_k (by decide) : rg 0 0 0) (rg_k (by decide) : rg 0 0 0) (i_ne c10) (by decide)).elim)
  refine lv_aload_n hx hb dX3_advance_183 rfl (lv_at hl 1 rfl) ?_
  refine lv_iconst (v := 0) hx hb dX3_advance_184 (by decide) ?_
  refine r_puti X hT hS 14 5 pk_3_118 rfl rfl rfl rfl (by decide) dX3_advance_185 (fun H locs i11 ei11 hT hS => ?_)
  have hR11 := Rg_put hR7 ei11 0 0 rfl (rg_k (by decide) : rg 0 0 0) (by decide)
  refine lv_aload_n hx hb dX3_advance_188 rfl (lv_at hl 1 rfl) ?_
  refine r_geti X hT 14 3 fk_3_137 rfl rfl (by decide) dX3_advance_189 ?_
  refine lv_istore_n (lv' := [(2, .int (i11 14 3)), (1, .int 0), (0, .ref (h 14))]) hx hb dX3_advance_192 rfl hl (by decide) rfl (fun ls hl => ?_)
  refine lv_aload_n hx hb dX3_advance_193 rfl (lv_at hl 2 rfl) ?_
  refine r_geti X hT 14 2 fk_3_37 rfl rfl (by decide) dX3_advance_194 ?_
  refine lv_iconst (v := 2) hx hb dX3_advance_197 (by decide) ?_
  refine lv_icmp_ne (tgt := 244) hx hb dX3_advance_198 (by decide) (fun c12 => ?_) (fun c12 => (x_eq (Rg_at hR11 14 2 0 0 (by decide) rfl) (rg_k (by decide) : rg 2 2 2) (i_eq c12) (by decide)).elim)
  have q12 : ¬ (i11 14 2).toInt = 2 := i_ne c12
  exact hret _ _ _ _ _ _ dX3_advance_244 hT hS hR11

set_option maxRecDepth 100000 in
set_option maxHeartbeats 4000000 in
theorem k_X3_parse_14 {l : Launch} {D : va_G} {h : Nat → Nat} {cz : Nat → ClassId} {i : Nat → Nat → Int32} {g : Nat → Nat → Int64} (hR : Rg rF i)  : CtI l yX3_parse cX3_parse 2 (some .boolean) ({ frames := 2, cells := 0, slots := 0, locals := 43 } : Room) D h cz i g [.ref (h 14)] (fun r u => Rg rF u.1 ∧ r = 1) := by
  refine k_Z (by intro v u hq; obtain ⟨-, hq⟩ := hq; exact Or.inr hq) pn_X3_parse (Nat.le_of_ble_eq_true rfl) ?_
  intro p e s m args below meth c ls Q X hret hT hl hS
  have hx := X.1
  have hb := X.2.1
  have hl : lv_has ls 2 [(0, .ref (h 14))] := hl
  refine lv_aload_n hx hb dX3_parse_0 rfl (lv_at hl 0 rfl) ?_
  refine r_getr X hT 14 1 3 fk_3_19 rfl rfl (by decide) dX3_parse_1 ?_
  refine r_Vv (As := []) (rest := []) X hT hS (k_X6_clear_3 hR) mk_X6_clear gm_513 rfl rfl (by decide) hd_X6_clear ⟨rfl, rfl⟩ ⟨Nat.le_of_ble_eq_true rfl, Nat.le_of_ble_eq_true rfl⟩ hl.1 rfl (Nat.le_of_ble_eq_true rfl) dX3_parse_4 ⟨Nat.zero_le _, Nat.zero_le _⟩ (fun i1 g1 H locs hq hT hS => ?_)
  have hR1 := hq
  refine lv_aload_n hx hb dX3_parse_7 rfl (lv_at hl 0 rfl) ?_
  refine lv_iconst (v := 0) hx hb dX3_parse_8 (by decide) ?_
  refine r_puti X hT hS 14 6 pk_3_28 rfl rfl rfl rfl (by decide) dX3_parse_9 (fun H locs i2 ei2 hT hS => ?_)
  have hR2 := Rg_put hR1 ei2 0 0 rfl (rg_k (by decide) : rg 0 0 0) (by decide)
  refine lv_aload_n hx hb dX3_parse_12 rfl (lv_at hl 0 rfl) ?_
  refine lv_iconst (v := (-1)) hx hb dX3_parse_13 (by decide) ?_
  refine r_puti X hT hS 14 7 pk_3_9 rfl rfl rfl rfl (by decide) dX3_parse_14 (fun H locs i3 ei3 hT hS => ?_)
  have hR3 := Rg_put hR2 ei3 (-1) (-1) rfl (rg_k (by decide) : rg (-1) (-1) (-1)) (by decide)
  refine lv_aload_n hx hb dX3_parse_17 rfl (lv_at hl 0 rfl) ?_
  refine lv_iconst (v := 0) hx hb dX3_parse_18 (by decide) ?_
  refine r_puti X hT hS 14 4 pk_3_31 rfl rfl rfl rfl (by decide) dX3_parse_19 (fun H locs i4 ei4 hT hS => ?_)
  have hR4 := Rg_put hR3 ei4 0 0 rfl (rg_k (by decide) : rg 0 0 0) (by decide)
  refine lv_aload_n hx hb dX3_parse_22 rfl (lv_at hl 0 rfl) ?_
  refine r_Vv (As := []) (rest := []) X hT hS (k_X3_advance_14 hR4) mk_X3_advance gm_517 rfl rfl (by decide) hd_X3_advance ⟨rfl, rfl⟩ ⟨Nat.le_of_ble_eq_true rfl, Nat.le_of_ble_eq_true rfl⟩ hl.1 rfl (Nat.le_of_ble_eq_true rfl) dX3_parse_23 ⟨Nat.zero_le _, Nat.zero_le _⟩ (fun i5 g5 H locs hq hT hS => ?_)
  have hR5 := hq
  refine lv_iconst (v := 0) hx hb dX3_parse_26 (by decide) ?_
  refine lv_istore_n (lv' := [(1, .int 0), (0, .ref (h 14))]) hx hb dX3_parse_27 rfl hl (by decide) rfl (fun ls hl => ?_)
  refine lv_iload_n hx hb dX3_parse_28 rfl (lv_at hl 0 rfl) ?_
  refine lv_sipush (v := 700) hx hb dX3_parse_29 (by decide) ?_
  refine lv_icmp_ge (tgt := 70) hx hb dX3_parse_32 (by decide) (fun c6 => (x_le (rg_k (by decide) : rg 700 700 700) (rg_k (by decide) : rg 0 0 0) (i_le c6) (by decide)).elim) (fun c6 => ?_)
  refine lv_aload_n hx hb dX3_parse_35 rfl (lv_at hl 1 rfl) ?_
  refine r_geti X hT 14 2 fk_3_37 rfl rfl (by decide) dX3_parse_36 ?_
  refine lv_if_eq (tgt := 70) hx hb dX3_parse_39 (by decide) (fun c7 => ?_) (fun c7 => (x_ne (Rg_at hR5 14 2 0 0 (by decide) rfl) (rg_k (by decide) : rg 0 0 0) (i_ne c7) (by decide)).elim)
  have q7 : (i5 14 2).toInt = 0 := i_eq c7
  refine lv_iconst (v := 1) hx hb dX3_parse_70 (by decide) ?_
  exact hret 1 _ _ _ _ _ _ dX3_parse_71 hT hS ⟨hR5, rfl⟩

set_option maxRecDepth 100000 in
set_option maxHeartbeats 4000000 in
theorem k_X6_become_15_3 {l : Launch} {D : va_G} {h : Nat → Nat} {cz : Nat → ClassId} {i : Nat → Nat → Int32} {g : Nat → Nat → Int64} (hR : Rg rF i)  : CtV l yX6_become cX6_become 2 none ({ frames := 1, cells := 0, slots := 0, locals := 40 } : Room) D h cz i g [.ref (h 15), .ref (h 3)] (fun u => Rg rF u.1) := by
  refine k_V pn_X6_become (Nat.le_of_ble_eq_true rfl) ?_
  intro p e s m args below meth c ls Q X hret hT hl hS
  have hx := X.1
  have hb := X.2.1
  have hl : lv_has ls 2 [(0, .ref (h 15)), (1, .ref (h 3))] := hl
  refine lv_aload_n hx hb dX6_become_0 rfl (lv_at hl 0 rfl) ?_
  refine lv_aload_n hx hb dX6_become_1 rfl (lv_at hl 1 rfl) ?_
  refine r_geti X hT 3 10 fk_6_42 rfl rfl (by decide) dX6_become_2 ?_
  refine r_puti X hT hS 15 10 pk_6_42 rfl rfl rfl rfl (by decide) dX6_become_5 (fun H locs i1 ei1 hT hS => ?_)
  have hR1 := Rg_put hR ei1 0 0 rfl (Rg_at hR 3 10 0 0 (by decide) rfl) (by decide)
  refine lv_aload_n hx hb dX6_become_8 rfl (lv_at hl 0 rfl) ?_
  refine lv_aload_n hx hb dX6_become_9 rfl (lv_at hl 1 rfl) ?_
  refine r_geti X hT 3 11 fk_6_46 rfl rfl (by decide) dX6_become_10 ?_
  refine r_puti X hT hS 15 11 pk_6_46 rfl rfl rfl rfl (by decide) dX6_become_13 (fun H locs i2 ei2 hT hS => ?_)
  have hR2 := Rg_put hR1 ei2 0 0 rfl (Rg_at hR1 3 11 0 0 (by decide) rfl) (by decide)
  refine lv_aload_n hx hb dX6_become_16 rfl (lv_at hl 0 rfl) ?_
  refine lv_aload_n hx hb dX6_become_17 rfl (lv_at hl 1 rfl) ?_
  refine r_geti X hT 3 12 fk_6_49 rfl rfl (by decide) dX6_become_18 ?_
  refine r_puti X hT hS 15 12 pk_6_49 rfl rfl rfl rfl (by decide) dX6_become_21 (fun H locs i3 ei3 hT hS => ?_)
  have hR3 := Rg_put hR2 ei3 0 0 rfl (Rg_at hR2 3 12 0 0 (by decide) rfl) (by decide)
  refine lv_aload_n hx hb dX6_become_24 rfl (lv_at hl 0 rfl) ?_
  refine lv_aload_n hx hb dX6_become_25 rfl (lv_at hl 1 rfl) ?_
  refine r_geti X hT 3 13 fk_6_52 rfl rfl (by decide) dX6_become_26 ?_
  refine r_puti X hT hS 15 13 pk_6_52 rfl rfl rfl rfl (by decide) dX6_become_29 (fun H locs i4 ei4 hT hS => ?_)
  have hR4 := Rg_put hR3 ei4 0 0 rfl (Rg_at hR3 3 13 0 0 (by decide) rfl) (by decide)
  refine lv_aload_n hx hb dX6_become_32 rfl (lv_at hl 0 rfl) ?_
  refine lv_aload_n hx hb dX6_become_33 rfl (lv_at hl 1 rfl) ?_
  refine r_geti X hT 3 14 fk_6_55 rfl rfl (by decide) dX6_become_34 ?_
  refine r_puti X hT hS 15 14 pk_6_55 rfl rfl rfl rfl (by decide) dX6_become_37 (fun H locs i5 ei5 hT hS => ?_)
  have hR5 := Rg_put hR4 ei5 0 0 rfl (Rg_at hR4 3 14 0 0 (by decide) rfl) (by decide)
  refine lv_aload_n hx hb dX6_become_40 rfl (lv_at hl 0 rfl) ?_
  refine lv_aload_n hx hb dX6_become_41 rfl (lv_at hl 1 rfl) ?_
  refine r_geti X hT 3 15 fk_6_58 rfl rfl (by decide) dX6_become_42 ?_
  refine r_puti X hT hS 15 15 pk_6_58 rfl rfl rfl rfl (by decide) dX6_become_45 (fun H locs i6 ei6 hT hS => ?_)
  have hR6 := Rg_put hR5 ei6 0 0 rfl (Rg_at hR5 3 15 0 0 (by decide) rfl) (by decide)
  refine lv_aload_n hx hb dX6_become_48 rfl (lv_at hl 0 rfl) ?_
  refine lv_aload_n hx hb dX6_become_49 rfl (lv_at hl 1 rfl) ?_
  refine r_geti X hT 3 16 fk_6_61 rfl rfl (by decide) dX6_become_50 ?_
  refine r_puti X hT hS 15 16 pk_6_61 rfl rfl rfl rfl (by decide) dX6_become_53 (fun H locs i7 ei7 hT hS => ?_)
  have hR7 := Rg_put hR6 ei7 0 0 rfl (Rg_at hR6 3 16 0 0 (by decide) rfl) (by decide)
  refine lv_aload_n hx hb dX6_become_56 rfl (lv_at hl 0 rfl) ?_
  refine lv_aload_n hx hb dX6_become_57 rfl (lv_at hl 1 rfl) ?_
  refine r_geti X hT 3 17 fk_6_64 rfl rfl (by decide) dX6_become_58 ?_
  refine r_puti X hT hS 15 17 pk_6_64 rfl rfl rfl rfl (by decide) dX6_become_61 (fun H locs i8 ei8 hT hS => ?_)
  have hR8 := Rg_put hR7 ei8 0 0 rfl (Rg_at hR7 3 17 0 0 (by decide) rfl) (by decide)
  refine lv_aload_n hx hb dX6_become_64 rfl (lv_at hl 1 rfl) ?_
  refine r_getr X hT 3 0 4 fk_6_9 rfl rfl (by decide) dX6_become_65 ?_
  refine lv_iconst (v := 0) hx hb dX6_become_68 (by decide) ?_
  refine lv_aload_n hx hb dX6_become_69 rfl (lv_at hl 0 rfl) ?_
  refine r_getr X hT 15 0 16 fk_6_9 rfl rfl (by decide) dX6_become_70 ?_
  refine lv_iconst (v := 0) hx hb dX6_become_73 (by decide) ?_
  refine lv_bipush (v := 6) hx hb dX6_become_74 (by decide) ?_
  refine r_copyi X hT hS hl.1 4 16 rfl rfl (by decide) (by decide) gm_654 gm_656 gm_655 gm_123 (rg_k (by decide) : rg 0 0 0) (rg_k (by decide) : rg 0 0 0) (rg_k (by decide) : rg 6 6 6) (by decide) (Nat.le_of_ble_eq_true rfl) (by decide +kernel) dX6_become_76 (fun H locs i9 ei9 hT hS => ?_)
  have hR9 := Rg_cpy hR8 ei9 0 0 0 0 (fun _ => rfl) (fun _ => rfl) (by decide) (by decide)
  refine lv_aload_n hx hb dX6_become_79 rfl (lv_at hl 1 rfl) ?_
  refine r_getr X hT 3 1 5 fk_6_15 rfl rfl (by decide) dX6_become_80 ?_
  refine lv_iconst (v := 0) hx hb dX6_become_83 (by decide) ?_
  refine lv_aload_n hx hb dX6_become_84 rfl (lv_at hl 0 rfl) ?_
  refine r_getr X hT 15 1 17 fk_6_15 rfl rfl (by decide) dX6_become_85 ?_
  refine lv_iconst (v := 0) hx hb dX6_become_88 (by decide) ?_
  refine lv_bipush (v := 6) hx hb dX6_become_89 (by decide) ?_
  refine r_copyi X hT hS hl.1 5 17 rfl rfl (by decide) (by decide) gm_654 gm_656 gm_655 gm_123 (rg_k (by decide) : rg 0 0 0) (rg_k (by decide) : rg 0 0 0) (rg_k (by decide) : rg 6 6 6) (by decide) (Nat.le_of_ble_eq_true rfl) (by decide +kernel) dX6_become_91 (fun H locs i10 ei10 hT hS => ?_)
  have hR10 := Rg_cpy hR9 ei10 0 0 0 0 (fun _ => rfl) (fun _ => rfl) (by decide) (by decide)
  refine lv_aload_n hx hb dX6_become_94 rfl (lv_at hl 1 rfl) ?_
  refine r_getr X hT 3 2 6 fk_6_18 rfl rfl (by decide) dX6_become_95 ?_
  refine lv_iconst (v := 0) hx hb dX6_become_98 (by decide) ?_
  refine lv_aload_n hx hb dX6_become_99 rfl (lv_at hl 0 rfl) ?_
  refine r_getr X hT 15 2 18 fk_6_18 rfl rfl (by decide) dX6_become_100 ?_
  refine lv_iconst (v := 0) hx hb dX6_become_103 (by decide) ?_
  refine lv_bipush (v := 6) hx hb dX6_become_104 (by decide) ?_
  refine r_copyi X hT hS hl.1 6 18 rfl rfl (by decide) (by decide) gm_654 gm_656 gm_655 gm_123 (rg_k (by decide) : rg 0 0 0) (rg_k (by decide) : rg 0 0 0) (rg_k (by decide) : rg 6 6 6) (by decide) (Nat.le_of_ble_eq_true rfl) (by decide +kernel) dX6_become_106 (fun H locs i11 ei11 hT hS => ?_)
  have hR11 := Rg_cpy hR10 ei11 0 0 0 0 (fun _ => rfl) (fun _ => rfl) (by decide) (by decide)
  refine lv_aload_n hx hb dX6_become_109 rfl (lv_at hl 1 rfl) ?_
  refine r_getr X hT 3 3 7 fk_6_21 rfl rfl (by decide) dX6_become_110 ?_
  refine lv_iconst (v := 0) hx hb dX6_become_113 (by decide) ?_
  refine lv_aload_n hx hb dX6_become_114 rfl (lv_at hl 0 rfl) ?_
  refine r_getr X hT 15 3 19 fk_6_21 rfl rfl (by decide) dX6_become_115 ?_
  refine lv_iconst (v := 0) hx hb dX6_become_118 (by decide) ?_
  refine lv_bipush (v := 10) hx hb dX6_become_119 (by decide) ?_
  refine r_copyi X hT hS hl.1 7 19 rfl rfl (by decide) (by decide) gm_654 gm_656 gm_655 gm_123 (rg_k (by decide) : rg 0 0 0) (rg_k (by decide) : rg 0 0 0) (rg_k (by decide) : rg 10 10 10) (by decide) (Nat.le_of_ble_eq_true rfl) (by decide +kernel) dX6_become_121 (fun H locs i12 ei12 hT hS => ?_)
  have hR12 := Rg_cpy hR11 ei12 0 0 0 0 (fun _ => rfl) (fun _ => rfl) (by decide) (by decide)
  refine lv_aload_n hx hb dX6_become_124 rfl (lv_at hl 1 rfl) ?_
  refine r_getr X hT 3 4 8 fk_6_24 rfl rfl (by decide) dX6_become_125 ?_
  refine lv_iconst (v := 0) hx hb dX6_become_128 (by decide) ?_
  refine lv_aload_n hx hb dX6_become_129 rfl (lv_at hl 0 rfl) ?_
  refine r_getr X hT 15 4 20 fk_6_24 rfl rfl (by decide) dX6_become_130 ?_
  refine lv_iconst (v := 0) hx hb dX6_become_133 (by decide) ?_
  refine lv_bipush (v := 10) hx hb dX6_become_134 (by decide) ?_
  refine r_copyi X hT hS hl.1 8 20 rfl rfl (by decide) (by decide) gm_654 gm_656 gm_655 gm_123 (rg_k (by decide) : rg 0 0 0) (rg_k (by decide) : rg 0 0 0) (rg_k (by decide) : rg 10 10 10) (by decide) (Nat.le_of_ble_eq_true rfl) (by decide +kernel) dX6_become_136 (fun H locs i13 ei13 hT hS => ?_)
  have hR13 := Rg_cpy hR12 ei13 0 0 0 0 (fun _ => rfl) (fun _ => rfl) (by decide) (by decide)
  refine lv_aload_n hx hb dX6_become_139 rfl (lv_at hl 1 rfl) ?_
  refine r_getr X hT 3 5 9 fk_6_27 rfl rfl (by decide) dX6_become_140 ?_
  refine lv_iconst (v := 0) hx hb dX6_become_143 (by decide) ?_
  refine lv_aload_n hx hb dX6_become_144 rfl (lv_at hl 0 rfl) ?_
  refine r_getr X hT 15 5 21 fk_6_27 rfl rfl (by decide) dX6_become_145 ?_
  refine lv_iconst (v := 0) hx hb dX6_become_148 (by decide) ?_
  refine lv_bipush (v := 8) hx hb dX6_become_149 (by decide) ?_
  refine r_copyi X hT hS hl.1 9 21 rfl rfl (by decide) (by decide) gm_654 gm_656 gm_655 gm_123 (rg_k (by decide) : rg 0 0 0) (rg_k (by decide) : rg 0 0 0) (rg_k (by decide) : rg 8 8 8) (by decide) (Nat.le_of_ble_eq_true rfl) (by decide +kernel) dX6_become_151 (fun H locs i14 ei14 hT hS => ?_)
  have hR14 := Rg_cpy hR13 ei14 0 0 0 0 (fun _ => rfl) (fun _ => rfl) (by decide) (by decide)
  refine lv_aload_n hx hb dX6_become_154 rfl (lv_at hl 1 rfl) ?_
  refine r_getr X hT 3 6 10 fk_6_30 rfl rfl (by decide) dX6_become_155 ?_
  refine lv_iconst (v := 0) hx hb dX6_become_158 (by decide) ?_
  refine lv_aload_n hx hb dX6_become_159 rfl (lv_at hl 0 rfl) ?_
  refine r_getr X hT 15 6 22 fk_6_30 rfl rfl (by decide) dX6_become_160 ?_
  refine lv_iconst (v := 0) hx hb dX6_become_163 (by decide) ?_
  refine lv_bipush (v := 8) hx hb dX6_become_164 (by decide) ?_
  refine r_copyi X hT hS hl.1 10 22 rfl rfl (by decide) (by decide) gm_654 gm_656 gm_655 gm_123 (rg_k (by decide) : rg 0 0 0) (rg_k (by decide) : rg 0 0 0) (rg_k (by decide) : rg 8 8 8) (by decide) (Nat.le_of_ble_eq_true rfl) (by decide +kernel) dX6_become_166 (fun H locs i15 ei15 hT hS => ?_)
  have hR15 := Rg_cpy hR14 ei15 0 0 0 0 (fun _ => rfl) (fun _ => rfl) (by decide) (by decide)
  refine lv_aload_n hx hb dX6_become_169 rfl (lv_at hl 1 rfl) ?_
  refine r_getr X hT 3 7 11 fk_6_33 rfl rfl (by decide) dX6_become_170 ?_
  refine lv_iconst (v := 0) hx hb dX6_become_173 (by decide) ?_
  refine lv_aload_n hx hb dX6_become_174 rfl (lv_at hl 0 rfl) ?_
  refine r_getr X hT 15 7 23 fk_6_33 rfl rfl (by decide) dX6_become_175 ?_
  refine lv_iconst (v := 0) hx hb dX6_become_178 (by decide) ?_
  refine lv_bipush (v := 20) hx hb dX6_become_179 (by decide) ?_
  refine r_copyi X hT hS hl.1 11 23 rfl rfl (by decide) (by decide) gm_654 gm_656 gm_655 gm_123 (rg_k (by decide) : rg 0 0 0) (rg_k (by decide) : rg 0 0 0) (rg_k (by decide) : rg 20 20 20) (by decide) (Nat.le_of_ble_eq_true rfl) (by decide +kernel) dX6_become_181 (fun H locs i16 ei16 hT hS => ?_)
  have hR16 := Rg_cpy hR15 ei16 0 0 0 0 (fun _ => rfl) (fun _ => rfl) (by decide) (by decide)
  refine lv_aload_n hx hb dX6_become_184 rfl (lv_at hl 1 rfl) ?_
  refine r_getr X hT 3 8 12 fk_6_36 rfl rfl (by decide) dX6_become_185 ?_
  refine lv_iconst (v := 0) hx hb dX6_become_188 (by decide) ?_
  refine lv_aload_n hx hb dX6_become_189 rfl (lv_at hl 0 rfl) ?_
  refine r_getr X hT 15 8 24 fk_6_36 rfl rfl (by decide) dX6_become_190 ?_
  refine lv_iconst (v := 0) hx hb dX6_become_193 (by decide) ?_
  refine lv_bipush (v := 20) hx hb dX6_become_194 (by decide) ?_
  refine r_copyi X hT hS hl.1 12 24 rfl rfl (by decide) (by decide) gm_654 gm_656 gm_655 gm_123 (rg_k (by decide) : rg 0 0 0) (rg_k (by decide) : rg 0 0 0) (rg_k (by decide) : rg 20 20 20) (by decide) (Nat.le_of_ble_eq_true rfl) (by decide +kernel) dX6_become_196 (fun H locs i17 ei17 hT hS => ?_)
  have hR17 := Rg_cpy hR16 ei17 0 0 0 0 (fun _ => rfl) (fun _ => rfl) (by decide) (by decide)
  refine lv_aload_n hx hb dX6_become_199 rfl (lv_at hl 1 rfl) ?_
  refine r_getr X hT 3 9 13 fk_6_39 rfl rfl (by decide) dX6_become_200 ?_
  refine lv_iconst (v := 0) hx hb dX6_become_203 (by decide) ?_
  refine lv_aload_n hx hb dX6_become_204 rfl (lv_at hl 0 rfl) ?_
  refine r_getr X hT 15 9 25 fk_6_39 rfl rfl (by decide) dX6_become_205 ?_
  refine lv_iconst (v := 0) hx hb dX6_become_208 (by decide) ?_
  refine lv_bipush (v := 20) hx hb dX6_become_209 (by decide) ?_
  refine r_copyi X hT hS hl.1 13 25 rfl rfl (by decide) (by decide) gm_654 gm_656 gm_655 gm_123 (rg_k (by decide) : rg 0 0 0) (rg_k (by decide) : rg 0 0 0) (rg_k (by decide) : rg 20 20 20) (by decide) (Nat.le_of_ble_eq_true rfl) (by decide +kernel) dX6_become_211 (fun H locs i18 ei18 hT hS => ?_)
  have hR18 := Rg_cpy hR17 ei18 0 0 0 0 (fun _ => rfl) (fun _ => rfl) (by decide) (by decide)
  exact hret _ _ _ _ _ _ dX6_become_214 hT hS hR18

set_option maxRecDepth 100000 in
set_option maxHeartbeats 4000000 in
theorem k_X8_forgetAnswers {l : Launch} {D : va_G} {h : Nat → Nat} {cz : Nat → ClassId} {i : Nat → Nat → Int32} {g : Nat → Nat → Int64} (hR : Rg rF i)  : CtV l yX8_forgetAnswers cX8_forgetAnswers 1 none ({ frames := 0, cells := 0, slots := 0, locals := 0 } : Room) D h cz i g [.ref (h 0)] (fun u => Rg rF u.1) := by
  refine k_V pn_X8_forgetAnswers (Nat.le_of_ble_eq_true rfl) ?_
  intro p e s m args below meth c ls Q X hret hT hl hS
  have hx := X.1
  have hb := X.2.1
  have hl : lv_has ls 1 [(0, .ref (h 0))] := hl
  refine lv_aload_n hx hb dX8_forgetAnswers_0 rfl (lv_at hl 0 rfl) ?_
  refine lv_iconst (v := 1) hx hb dX8_forgetAnswers_1 (by decide) ?_
  refine r_puti X hT hS 0 12 pk_8_87 rfl rfl rfl rfl (by decide) dX8_forgetAnswers_2 (fun H locs i1 ei1 hT hS => ?_)
  have hR1 := Rg_put hR ei1 1 1 rfl (rg_k (by decide) : rg 1 1 1) (by decide)
  refine lv_aload_n hx hb dX8_forgetAnswers_5 rfl (lv_at hl 0 rfl) ?_
  refine lv_iconst (v := 1) hx hb dX8_forgetAnswers_6 (by decide) ?_
  refine r_puti X hT hS 0 13 pk_8_91 rfl rfl rfl rfl (by decide) dX8_forgetAnswers_7 (fun H locs i2 ei2 hT hS => ?_)
  have hR2 := Rg_put hR1 ei2 1 1 rfl (rg_k (by decide) : rg 1 1 1) (by decide)
  refine lv_aload_n hx hb dX8_forgetAnswers_10 rfl (lv_at hl 0 rfl) ?_
  refine lv_iconst (v := 0) hx hb dX8_forgetAnswers_11 (by decide) ?_
  refine r_puti X hT hS 0 14 pk_8_94 rfl rfl rfl rfl (by decide) dX8_forgetAnswers_12 (fun H locs i3 ei3 hT hS => ?_)
  have hR3 := Rg_put hR2 ei3 0 0 rfl (rg_k (by decide) : rg 0 0 0) (by decide)
  exact hret _ _ _ _ _ _ dX8_forgetAnswers_15 hT hS hR3

set_option maxRecDepth 100000 in
set_option maxHeartbeats 4000000 in
theorem k_X8_tale {l : Launch} {D : va_G} {h : Nat → Nat} {cz : Nat → ClassId} {i : Nat → Nat → Int32} {g : Nat → Nat → Int64} (hR : Rg rF i)  : CtI l yX8_tale cX8_tale 1 (some .int) ({ frames := 3, cells := 0, slots := 0, locals := 64 } : Room) D h cz i g [.ref (h 0)] (fun r u => Rg rF u.1 ∧ r = 0) := by
  refine k_I pn_X8_tale (Nat.le_of_ble_eq_true rfl) ?_
  intro p e s m args below meth c ls Q X hret hT hl hS
  have hx := X.1
  have hb := X.2.1
  have hl : lv_has ls 1 [(0, .ref (h 0))] := hl
  refine lv_aload_n hx hb dX8_tale_0 rfl (lv_at hl 0 rfl) ?_
  refine r_getr X hT 0 2 14 fk_8_28 rfl rfl (by decide) dX8_tale_1 ?_
  refine r_Vi (As := []) (rest := []) X hT hS (k_X3_parse_14 hR) mk_X3_parse gm_509 rfl rfl (by decide) hd_X3_parse ⟨rfl, rfl⟩ ⟨Nat.le_of_ble_eq_true rfl, Nat.le_of_ble_eq_true rfl⟩ hl.1 rfl (Nat.le_of_ble_eq_true rfl) dX8_tale_4 ⟨Nat.zero_le _, Nat.zero_le _⟩ (fun r1 i1 g1 H locs hq hT hS => ?_)
  obtain ⟨hR1, rfl⟩ := hq
  refine lv_if_ne (tgt := 13) hx hb dX8_tale_7 (by decide) (fun c2 => ?_) (fun c2 => (x_eq (rg_k (by decide) : rg 1 1 1) (rg_k (by decide) : rg 0 0 0) (i_eq c2) (by decide)).elim)
  refine lv_aload_n hx hb dX8_tale_13 rfl (lv_at hl 0 rfl) ?_
  refine r_getr X hT 0 3 15 fk_8_32 rfl rfl (by decide) dX8_tale_14 ?_
  refine lv_aload_n hx hb dX8_tale_17 rfl (lv_at hl 0 rfl) ?_
  refine r_getr X hT 0 1 3 fk_8_19 rfl rfl (by decide) dX8_tale_18 ?_
  refine r_Vv (As := [.ref (h 3)]) (rest := []) X hT hS (k_X6_become_15_3 hR1) mk_X6_become gm_650 rfl rfl (by decide) hd_X6_become ⟨rfl, rfl⟩ ⟨Nat.le_of_ble_eq_true rfl, Nat.le_of_ble_eq_true rfl⟩ hl.1 rfl (Nat.le_of_ble_eq_true rfl) dX8_tale_21 ⟨Nat.zero_le _, Nat.zero_le _⟩ (fun i3 g3 H locs hq hT hS => ?_)
  have hR3 := hq
  refine lv_aload_n hx hb dX8_tale_24 rfl (lv_at hl 0 rfl) ?_
  refine r_getr X hT 0 0 1 fk_8_10 rfl rfl (by decide) dX8_tale_25 ?_
  refine lv_iconst (v := 0) hx hb dX8_tale_28 (by decide) ?_
  refine r_puti X hT hS 1 1 pk_8_106 rfl rfl rfl rfl (by decide) dX8_tale_29 (fun H locs i4 ei4 hT hS => ?_)
  have hR4 := Rg_put hR3 ei4 0 0 rfl (rg_k (by decide) : rg 0 0 0) (by decide)
  refine lv_aload_n hx hb dX8_tale_32 rfl (lv_at hl 0 rfl) ?_
  refine r_Vv (As := []) (rest := []) X hT hS (k_X8_forgetAnswers hR4) mk_X8_forgetAnswers gm_657 rfl rfl (by decide) hd_X8_forgetAnswers ⟨rfl, rfl⟩ ⟨Nat.le_of_ble_eq_true rfl, Nat.le_of_ble_eq_true rfl⟩ hl.1 rfl (Nat.le_of_ble_eq_true rfl) dX8_tale_33 ⟨Nat.zero_le _, Nat.zero_le _⟩ (fun i5 g5 H locs hq hT hS => ?_)
  have hR5 := hq
  refine lv_aload_n hx hb dX8_tale_36 rfl (lv_at hl 0 rfl) ?_
  refine r_getr X hT 0 3 15 fk_8_32 rfl rfl (by decide) dX8_tale_37 ?_
  refine r_geti X hT 15 17 fk_8_118 rfl rfl (by decide) dX8_tale_40 ?_
  exact hret (i5 15 17) _ _ _ _ _ _ dX8_tale_43 hT hS ⟨hR5, (rg_c (Rg_at hR5 15 17 0 0 (by decide) rfl))⟩
