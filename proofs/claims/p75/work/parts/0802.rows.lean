set_option maxRecDepth 100000 in
set_option maxHeartbeats 4000000 in
theorem m_X0_unfold_65 {l : Launch} {D : va_G} {h : Nat → Nat} {cz : Nat → ClassId} {z : EZ} {i : Nat → Nat → Int32} {g : Nat → Nat → Int64} (hR : Rg rA i) : DtV l yX0_unfold cX0_unfold 5 none ({ frames := 2, cells := 0, slots := 0, locals := 44 } : Room) D h cz z i g [.ref (h 65)] (fun u => Rg rA u.1 ∧ Fr [65, 69, 70] [] i g u) := by
  refine e_V pn_X0_unfold (Nat.le_of_ble_eq_true rfl) ?_
  intro p e s m args below meth c ls Q X Y hret hT hl hS
  have hx := X.1
  have hb := X.2.1
  have hl : lv_has ls 5 [(0, .ref (h 65))] := hl
  have hF : Fr [65, 69, 70] [] i g (i, g) := Fr_rf _ _ _ _
  refine lv_aload_n hx hb dX0_unfold_0 rfl (lv_at hl 0 rfl) ?_
  refine r_getr X hT 65 5 70 fk_0_24 rfl rfl (by decide) dX0_unfold_1 ?_
  refine lv_iconst (v := (-1)) hx hb dX0_unfold_4 (by decide) ?_
  refine e_Sv (As := [.ref (h 70), .int (-1)]) (rest := []) X Y hT hS (m_J7_fill_53178_70_m1 hR ((-1)) (rg_k (by decide) : rg (-1) (-1) (-1))) sk_J7_fill_53178 gm_745 hd_J7_fill_53178 ⟨rfl, rfl⟩ ⟨Nat.le_of_ble_eq_true rfl, Nat.le_of_ble_eq_true rfl⟩ hl.1 rfl (Nat.le_of_ble_eq_true rfl) dX0_unfold_5 ⟨Nat.zero_le _, Nat.zero_le _⟩ (fun i1 g1 H locs hq hT hS => ?_)
  obtain ⟨hR1, hf1, hf1_0⟩ := hq
  have hF1 := Fr_tr hF hf1 (by decide)
  refine lv_aload_n hx hb dX0_unfold_8 rfl (lv_at hl 0 rfl) ?_
  refine lv_iconst (v := 0) hx hb dX0_unfold_9 (by decide) ?_
  refine r_puti X hT hS 65 9 pk_0_85 rfl rfl rfl rfl (by decide) dX0_unfold_10 (fun H locs i2 ei2 hT hS => ?_)
  have hR2 := Rg_put hR1 ei2 (-2147483648) 2147483647 rfl (rg_k (by decide) : rg 0 0 0) (by decide)
  have hF2 := Fr_puti hF1 ei2 (by decide)
  refine lv_aload_n hx hb dX0_unfold_13 rfl (lv_at hl 0 rfl) ?_
  refine r_getr X hT 65 4 69 fk_0_21 rfl rfl (by decide) dX0_unfold_14 ?_
  refine lv_iconst (v := 0) hx hb dX0_unfold_17 (by decide) ?_
  refine lv_iconst (v := 0) hx hb dX0_unfold_18 (by decide) ?_
  refine r_iastc X hT hS 69 0 rfl (by decide) (v_in (rg_k (by decide) : rg 0 0 0) (by decide)) (by decide) dX0_unfold_19 (fun H locs i3 ei3 hT hS => ?_)
  have hR3 := Rg_put hR2 ei3 (-2147483648) 2147483647 rfl (rg_k (by decide) : rg 0 0 0) (by decide)
  have hF3 := Fr_puti hF2 ei3 (by decide)
  refine lv_iconst (v := 0) hx hb dX0_unfold_20 (by decide) ?_
  refine lv_istore_n (lv' := [(1, .int 0), (0, .ref (h 65))]) hx hb dX0_unfold_21 rfl hl (by decide) rfl (fun ls hl => ?_)
  have L22_4 : ∀ (n6_ : Nat) (x22_1 : Int32) (i5 : Nat → Nat → Int32) (g5 : Nat → Nat → Int64) (H : Heap) (locs : List Loc) (ls : Array Slot), rg 0 12 x22_1 → Rg rA i5 → Fr [65, 69, 70] [] i g (i5, g5) → TH D h cz i5 g5 H → va_S (hA h) s.heap H locs → lv_has ls 5 [(0, .ref (h 65)), (1, .int x22_1)] → (12 - x22_1.toInt).toNat < n6_ → W p l e ({ frames := 2, cells := 0, slots := 0, locals := 44 } : Room) s m args below meth c H locs 0 0 Q (F0 m 22 ls []) := by
    intro n6_
    induction n6_ with
    | zero => intro x22_1 i5 g5 H locs ls hhx22_1 hR5 hF5 hT hS hl hm6_; exact absurd hm6_ (Nat.not_lt_zero _)
    | succ n6_ ih6_ =>
      intro x22_1 i5 g5 H locs ls hhx22_1 hR5 hF5 hT hS hl hm6_
      refine lv_iload_n hx hb dX0_unfold_22 rfl (lv_at hl 1 rfl) ?_
      refine lv_aload_n hx hb dX0_unfold_23 rfl (lv_at hl 0 rfl) ?_
      refine r_getr X hT 65 0 15 fk_0_30 rfl rfl (by decide) dX0_unfold_24 ?_
      refine r_geti X hT 15 10 fk_0_88 rfl rfl (by decide) dX0_unfold_27 ?_
      refine lv_icmp_ge (tgt := 107) hx hb dX0_unfold_30 (by decide) (fun c7 => ?_) (fun c7 => ?_)
      ·
        have q7 : (i5 15 10).toInt ≤ x22_1.toInt := i_le c7
        exact hret _ _ _ _ _ _ dX0_unfold_107 hT hS ⟨hR5, hF5⟩
      ·
        have q7 : x22_1.toInt < (i5 15 10).toInt := i_nle c7
        have h8 : rg 0 11 x22_1 := t_ltx 0 11 hhx22_1 (Rg_at hR5 15 10 (-1) 12 (by decide) rfl) (i_nle c7) (by decide)
        have h9 : rg 1 12 (i5 15 10) := t_lty 1 12 hhx22_1 (Rg_at hR5 15 10 (-1) 12 (by decide) rfl) (i_nle c7) (by decide)
        refine lv_aload_n hx hb dX0_unfold_33 rfl (lv_at hl 0 rfl) ?_
        refine r_getr X hT 65 4 69 fk_0_21 rfl rfl (by decide) dX0_unfold_34 ?_
        refine lv_iload_n hx hb dX0_unfold_37 rfl (lv_at hl 1 rfl) ?_
        refine r_iald X hT 69 rfl (by decide) (v_in h8 (by decide)) dX0_unfold_38 ?_
        refine lv_istore_n (lv' := [(2, .int (i5 69 x22_1.toNatClampNeg)), (0, .ref (h 65)), (1, .int x22_1)]) hx hb dX0_unfold_39 rfl hl (by decide) rfl (fun ls hl => ?_)
        refine lv_iload_n hx hb dX0_unfold_40 rfl (lv_at hl 0 rfl) ?_
        refine lv_aload_n hx hb dX0_unfold_41 rfl (lv_at hl 1 rfl) ?_
        refine r_getr X hT 65 3 68 fk_0_18 rfl rfl (by decide) dX0_unfold_42 ?_
        refine lv_iload_n hx hb dX0_unfold_45 rfl (lv_at hl 2 rfl) ?_
        refine r_iald X hT 68 rfl (by decide) (v_in h8 (by decide)) dX0_unfold_46 ?_
        refine q_ior hx hb dX0_unfold_47 (fun x10 ex10 => ?_)
        refine lv_istore_n (lv' := [(3, .int x10), (2, .int (i5 69 x22_1.toNatClampNeg)), (0, .ref (h 65)), (1, .int x22_1)]) hx hb dX0_unfold_48 rfl hl (by decide) rfl (fun ls hl => ?_)
        refine lv_iload_n hx hb dX0_unfold_49 rfl (lv_at hl 0 rfl) ?_
        refine lv_iload_n hx hb dX0_unfold_50 rfl (lv_at hl 1 rfl) ?_
        have J63_12 : ∀ (x63_12_s0 : Int32) (H : Heap) (locs : List Loc) (ls : Array Slot), TH D h cz i5 g5 H → va_S (hA h) s.heap H locs → lv_has ls 5 [(0, .ref (h 65)), (1, .int x22_1), (2, .int (i5 69 x22_1.toNatClampNeg)), (3, .int x10)] → W p l e ({ frames := 2, cells := 0, slots := 0, locals := 44 } : Room) s m args below meth c H locs 0 0 Q (F0 m 63 ls [.int x63_12_s0]) := by
          intro x63_12_s0 H locs ls hT hS hl
          refine lv_istore (lv' := [(4, .int x63_12_s0), (0, .ref (h 65)), (1, .int x22_1), (2, .int (i5 69 x22_1.toNatClampNeg)), (3, .int x10)]) hx hb dX0_unfold_63 hl (by decide) rfl (fun ls hl => ?_)
          refine lv_aload_n hx hb dX0_unfold_65 rfl (lv_at hl 1 rfl) ?_
          refine lv_dup hx hb dX0_unfold_66 rfl ?_
          refine r_geti X hT 65 9 fk_0_85 rfl rfl (by decide) dX0_unfold_67 ?_
          refine lv_iload hx hb dX0_unfold_70 (lv_at hl 0 rfl) ?_
          refine lv_iload_n hx hb dX0_unfold_72 rfl (lv_at hl 4 rfl) ?_
          refine lv_iconst (v := (-1)) hx hb dX0_unfold_73 (by decide) ?_
          refine q_ixor hx hb dX0_unfold_74 (fun x13 ex13 => ?_)
          refine q_iand hx hb dX0_unfold_75 (fun x14 ex14 => ?_)
          refine q_ior hx hb dX0_unfold_76 (fun x15 ex15 => ?_)
          refine r_puti X hT hS 65 9 pk_0_85 rfl rfl rfl rfl (by decide) dX0_unfold_77 (fun H locs i16 ei16 hT hS => ?_)
          have hR16 := Rg_put hR5 ei16 (-2147483648) 2147483647 rfl (rg_top x15) (by decide)
          have hF16 := Fr_puti hF5 ei16 (by decide)
          refine lv_aload_n hx hb dX0_unfold_80 rfl (lv_at hl 1 rfl) ?_
          refine lv_iload hx hb dX0_unfold_81 (lv_at hl 0 rfl) ?_
          refine lv_iload_n hx hb dX0_unfold_83 rfl (lv_at hl 3 rfl) ?_
          refine lv_iconst (v := (-1)) hx hb dX0_unfold_84 (by decide) ?_
          refine q_ixor hx hb dX0_unfold_85 (fun x17 ex17 => ?_)
          refine q_iand hx hb dX0_unfold_86 (fun x18 ex18 => ?_)
          refine lv_iload_n hx hb dX0_unfold_87 rfl (lv_at hl 2 rfl) ?_
          refine e_Vv (As := [.int x18, .int x22_1]) (rest := []) X Y hT hS (m_X0_noteOpenings_65 hR16 x18 x22_1) mk_X0_noteOpenings gm_765 rfl rfl (by decide) hd_X0_noteOpenings ⟨rfl, rfl⟩ ⟨Nat.le_of_ble_eq_true rfl, Nat.le_of_ble_eq_true rfl⟩ hl.1 rfl (Nat.le_of_ble_eq_true rfl) dX0_unfold_88 ⟨Nat.zero_le _, Nat.zero_le _⟩ (fun i19 g19 H locs hq hT hS => ?_)
          obtain ⟨hR19, hf19⟩ := hq
          have hF19 := Fr_tr hF16 hf19 (by decide)
          refine lv_aload_n hx hb dX0_unfold_91 rfl (lv_at hl 1 rfl) ?_
          refine r_getr X hT 65 4 69 fk_0_21 rfl rfl (by decide) dX0_unfold_92 ?_
          refine lv_iload_n hx hb dX0_unfold_95 rfl (lv_at hl 2 rfl) ?_
          refine lv_iconst (v := 1) hx hb dX0_unfold_96 (by decide) ?_
          refine q_iadd hx hb dX0_unfold_97 (fun x20 ex20 => ?_)
          obtain ⟨hx20, ax20⟩ := rg_add 1 12 ex20 h8 (rg_k (by decide) : rg 1 1 1) (by decide)
          replace ax20 : x20.toInt = x22_1.toInt + 1 := ax20
          refine lv_iload hx hb dX0_unfold_98 (lv_at hl 0 rfl) ?_
          refine r_iast X hT hS 69 rfl (by decide) (v_in hx20 (by decide)) dX0_unfold_100 (fun H locs i21 ei21 hT hS => ?_)
          have hR21 := Rg_put hR19 ei21 (-2147483648) 2147483647 rfl (rg_top x63_12_s0) (by decide)
          have hF21 := Fr_puti hF19 ei21 (by decide)
          obtain ⟨x22, ex22⟩ : ∃ y : Int32, y = x22_1 + 1 := ⟨_, rfl⟩
          refine lv_iinc (v := x22) (lv' := [(1, .int x22), (4, .int x63_12_s0), (0, .ref (h 65)), (2, .int (i5 69 x22_1.toNatClampNeg)), (3, .int x10)]) hx hb dX0_unfold_101 hl (k := 2) rfl (by rw [ex22]; rfl) (by decide) rfl (fun ls hl => ?_)
          obtain ⟨hx22, ax22⟩ := rg_add 1 12 ex22 h8 (rg_k (by decide) : rg 1 1 1) (by decide)
          replace ax22 : x22.toInt = x22_1.toInt + 1 := ax22
          refine lv_goto (tgt := 22) hx hb dX0_unfold_104 (by decide) ?_
          exact ih6_ x22 i21 g19 _ _ _ (rg_w hx22 (by decide) : rg 0 12 x22) hR21 hF21 hT hS (lv_sub hl [2, 0] rfl) (m_up ax22 hx22 (by decide) hm6_)
        refine lv_icmp_ne (tgt := 58) hx hb dX0_unfold_51 (by decide) (fun c11 => ?_) (fun c11 => ?_)
        ·
          have q11 : ¬ x10.toInt = (i5 69 x22_1.toNatClampNeg).toInt := i_ne c11
          refine lv_aload_n hx hb dX0_unfold_58 rfl (lv_at hl 2 rfl) ?_
          refine lv_iload_n hx hb dX0_unfold_59 rfl (lv_at hl 0 rfl) ?_
          refine e_Vi (As := [.int x10]) (rest := []) X Y hT hS (m_X0_settle_65 hR5 x10) mk_X0_settle gm_761 rfl rfl (by decide) hd_X0_settle ⟨rfl, rfl⟩ ⟨Nat.le_of_ble_eq_true rfl, Nat.le_of_ble_eq_true rfl⟩ hl.1 rfl (Nat.le_of_ble_eq_true rfl) dX0_unfold_60 ⟨Nat.zero_le _, Nat.zero_le _⟩ (fun r23 i23 g23 H locs hq hT hS => ?_)
          have eh23 := hq
          rw [(Prod.mk.inj eh23).1, (Prod.mk.inj eh23).2] at hT
          exact J63_12 r23 _ _ _ hT hS (lv_sub hl [2, 3, 1, 0] rfl)
        ·
          have q11 : x10.toInt = (i5 69 x22_1.toNatClampNeg).toInt := i_eq c11
          refine lv_iload_n hx hb dX0_unfold_54 rfl (lv_at hl 1 rfl) ?_
          refine lv_goto (tgt := 63) hx hb dX0_unfold_55 (by decide) ?_
          exact J63_12 (i5 69 x22_1.toNatClampNeg) _ _ _ hT hS (lv_sub hl [2, 3, 1, 0] rfl)
  exact L22_4 _ (0) i3 g1 _ _ _ (rg_w (rg_k (by decide) : rg 0 0 0) (by decide) : rg 0 12 0) hR3 hF3 hT hS (lv_sub hl [1, 0] rfl) (Nat.lt_succ_self _)
set_option maxRecDepth 100000 in
set_option maxHeartbeats 4000000 in
theorem m_X0_unfoldWith_65 {l : Launch} {D : va_G} {h : Nat → Nat} {cz : Nat → ClassId} {z : EZ} {i : Nat → Nat → Int32} {g : Nat → Nat → Int64} (hR : Rg rA i) (a_a : Int32) : DtV l yX0_unfoldWith cX0_unfoldWith 3 none ({ frames := 3, cells := 0, slots := 0, locals := 68 } : Room) D h cz z i g [.ref (h 65), .int a_a] (fun u => Rg rA u.1 ∧ Fr [65, 68, 69, 70] [] i g u) := by
  refine e_V pn_X0_unfoldWith (Nat.le_of_ble_eq_true rfl) ?_
  intro p e s m args below meth c ls Q X Y hret hT hl hS
  have hx := X.1
  have hb := X.2.1
  have hl : lv_has ls 3 [(0, .ref (h 65)), (1, .int a_a)] := hl
  have hF : Fr [65, 68, 69, 70] [] i g (i, g) := Fr_rf _ _ _ _
  refine lv_aload_n hx hb dX0_unfoldWith_0 rfl (lv_at hl 0 rfl) ?_
  refine r_getr X hT 65 3 68 fk_0_18 rfl rfl (by decide) dX0_unfoldWith_1 ?_
  refine lv_iconst (v := 0) hx hb dX0_unfoldWith_4 (by decide) ?_
  refine e_Sv (As := [.ref (h 68), .int 0]) (rest := []) X Y hT hS (m_J7_fill_53178_68_0 hR (0) (rg_k (by decide) : rg 0 0 0)) sk_J7_fill_53178 gm_745 hd_J7_fill_53178 ⟨rfl, rfl⟩ ⟨Nat.le_of_ble_eq_true rfl, Nat.le_of_ble_eq_true rfl⟩ hl.1 rfl (Nat.le_of_ble_eq_true rfl) dX0_unfoldWith_5 ⟨Nat.zero_le _, Nat.zero_le _⟩ (fun i1 g1 H locs hq hT hS => ?_)
  obtain ⟨hR1, hf1, hf1_0⟩ := hq
  have hF1 := Fr_tr hF hf1 (by decide)
  refine lv_iconst (v := 0) hx hb dX0_unfoldWith_8 (by decide) ?_
  refine lv_istore_n (lv' := [(2, .int 0), (0, .ref (h 65)), (1, .int a_a)]) hx hb dX0_unfoldWith_9 rfl hl (by decide) rfl (fun ls hl => ?_)
  have L10_2 : ∀ (n4_ : Nat) (x10_2 : Int32) (i3 : Nat → Nat → Int32) (g3 : Nat → Nat → Int64) (H : Heap) (locs : List Loc) (ls : Array Slot), rg 0 8 x10_2 → Rg rA i3 → Fr [65, 68, 69, 70] [] i g (i3, g3) → TH D h cz i3 g3 H → va_S (hA h) s.heap H locs → lv_has ls 3 [(0, .ref (h 65)), (1, .int a_a), (2, .int x10_2)] → (8 - x10_2.toInt).toNat < n4_ → W p l e ({ frames := 3, cells := 0, slots := 0, locals := 68 } : Room) s m args below meth c H locs 0 0 Q (F0 m 10 ls []) := by
    intro n4_
    induction n4_ with
    | zero => intro x10_2 i3 g3 H locs ls hhx10_2 hR3 hF3 hT hS hl hm4_; exact absurd hm4_ (Nat.not_lt_zero _)
    | succ n4_ ih4_ =>
      intro x10_2 i3 g3 H locs ls hhx10_2 hR3 hF3 hT hS hl hm4_
      refine lv_iload_n hx hb dX0_unfoldWith_10 rfl (lv_at hl 2 rfl) ?_
      refine lv_aload_n hx hb dX0_unfoldWith_11 rfl (lv_at hl 0 rfl) ?_
      refine r_getr X hT 65 0 15 fk_0_30 rfl rfl (by decide) dX0_unfoldWith_12 ?_
      refine r_geti X hT 15 15 fk_0_69 rfl rfl (by decide) dX0_unfoldWith_15 ?_
      refine lv_icmp_ge (tgt := 63) hx hb dX0_unfoldWith_18 (by decide) (fun c5 => ?_) (fun c5 => ?_)
      ·
        have q5 : (i3 15 15).toInt ≤ x10_2.toInt := i_le c5
        refine lv_iconst (v := 0) hx hb dX0_unfoldWith_63 (by decide) ?_
        refine lv_istore_n (lv' := [(2, .int 0), (0, .ref (h 65)), (1, .int a_a)]) hx hb dX0_unfoldWith_64 rfl hl (by decide) rfl (fun ls hl => ?_)
        have L65_6 : ∀ (n8_ : Nat) (x65_1_2 : Int32) (i7 : Nat → Nat → Int32) (g7 : Nat → Nat → Int64) (H : Heap) (locs : List Loc) (ls : Array Slot), rg 0 20 x65_1_2 → Rg rA i7 → Fr [65, 68, 69, 70] [] i g (i7, g7) → TH D h cz i7 g7 H → va_S (hA h) s.heap H locs → lv_has ls 3 [(0, .ref (h 65)), (2, .int x65_1_2)] → (20 - x65_1_2.toInt).toNat < n8_ → W p l e ({ frames := 3, cells := 0, slots := 0, locals := 68 } : Room) s m args below meth c H locs 0 0 Q (F0 m 65 ls []) := by
          intro n8_
          induction n8_ with
          | zero => intro x65_1_2 i7 g7 H locs ls hhx65_1_2 hR7 hF7 hT hS hl hm8_; exact absurd hm8_ (Nat.not_lt_zero _)
          | succ n8_ ih8_ =>
            intro x65_1_2 i7 g7 H locs ls hhx65_1_2 hR7 hF7 hT hS hl hm8_
            refine lv_iload_n hx hb dX0_unfoldWith_65 rfl (lv_at hl 1 rfl) ?_
            refine lv_aload_n hx hb dX0_unfoldWith_66 rfl (lv_at hl 0 rfl) ?_
            refine r_getr X hT 65 0 15 fk_0_30 rfl rfl (by decide) dX0_unfoldWith_67 ?_
            refine r_geti X hT 15 16 fk_0_57 rfl rfl (by decide) dX0_unfoldWith_70 ?_
            refine lv_icmp_ge (tgt := 122) hx hb dX0_unfoldWith_73 (by decide) (fun c9 => ?_) (fun c9 => ?_)
            ·
              have q9 : (i7 15 16).toInt ≤ x65_1_2.toInt := i_le c9
              refine lv_aload_n hx hb dX0_unfoldWith_122 rfl (lv_at hl 0 rfl) ?_
              refine e_Vv (As := []) (rest := []) X Y hT hS (m_X0_unfold_65 hR7) mk_X0_unfold gm_757 rfl rfl (by decide) hd_X0_unfold ⟨rfl, rfl⟩ ⟨Nat.le_of_ble_eq_true rfl, Nat.le_of_ble_eq_true rfl⟩ hl.1 rfl (Nat.le_of_ble_eq_true rfl) dX0_unfoldWith_123 ⟨Nat.zero_le _, Nat.zero_le _⟩ (fun i10 g10 H locs hq hT hS => ?_)
              obtain ⟨hR10, hf10⟩ := hq
              have hF10 := Fr_tr hF7 hf10 (by decide)
              exact hret _ _ _ _ _ _ dX0_unfoldWith_126 hT hS ⟨hR10, hF10⟩
            ·
              have q9 : x65_1_2.toInt < (i7 15 16).toInt := i_nle c9
              have h11 : rg 0 19 x65_1_2 := t_ltx 0 19 hhx65_1_2 (Rg_at hR7 15 16 0 20 (by decide) rfl) (i_nle c9) (by decide)
              have h12 : rg 1 20 (i7 15 16) := t_lty 1 20 hhx65_1_2 (Rg_at hR7 15 16 0 20 (by decide) rfl) (i_nle c9) (by decide)
              refine lv_aload_n hx hb dX0_unfoldWith_76 rfl (lv_at hl 0 rfl) ?_
              refine r_getr X hT 65 0 15 fk_0_30 rfl rfl (by decide) dX0_unfoldWith_77 ?_
              refine r_getr X hT 15 7 23 fk_0_60 rfl rfl (by decide) dX0_unfoldWith_80 ?_
              refine lv_iload_n hx hb dX0_unfoldWith_83 rfl (lv_at hl 1 rfl) ?_
              refine r_iald X hT 23 rfl (by decide) (v_in h11 (by decide)) dX0_unfoldWith_84 ?_
              refine lv_if_ne (tgt := 116) hx hb dX0_unfoldWith_85 (by decide) (fun c13 => ?_) (fun c13 => ?_)
              ·
                have q13 : ¬ (i7 23 x65_1_2.toNatClampNeg).toInt = 0 := i_ne c13
                have h14 : rg 1 1 (i7 23 x65_1_2.toNatClampNeg) := t_nelo 1 (Rg_at hR7 23 x65_1_2.toNatClampNeg 0 1 (v_lt (v_in h11 (by decide))) rfl) (rg_k (by decide) : rg 0 0 0) (i_ne c13) (by decide)
                obtain ⟨x15, ex15⟩ : ∃ y : Int32, y = x65_1_2 + 1 := ⟨_, rfl⟩
                refine lv_iinc (v := x15) (lv' := [(2, .int x15), (0, .ref (h 65))]) hx hb dX0_unfoldWith_116 hl (k := 1) rfl (by rw [ex15]; rfl) (by decide) rfl (fun ls hl => ?_)
                obtain ⟨hx15, ax15⟩ := rg_add 1 20 ex15 h11 (rg_k (by decide) : rg 1 1 1) (by decide)
                replace ax15 : x15.toInt = x65_1_2.toInt + 1 := ax15
                refine lv_goto (tgt := 65) hx hb dX0_unfoldWith_119 (by decide) ?_
                exact ih8_ x15 i7 g7 _ _ _ (rg_w hx15 (by decide) : rg 0 20 x15) hR7 hF7 hT hS (lv_sub hl [1, 0] rfl) (m_up ax15 hx15 (by decide) hm8_)
              ·
                have q13 : (i7 23 x65_1_2.toNatClampNeg).toInt = 0 := i_eq c13
                have h16 : rg 0 0 (i7 23 x65_1_2.toNatClampNeg) := t_eqx 0 0 (Rg_at hR7 23 x65_1_2.toNatClampNeg 0 1 (v_lt (v_in h11 (by decide))) rfl) (rg_k (by decide) : rg 0 0 0) (i_eq c13) (by decide)
                refine lv_aload_n hx hb dX0_unfoldWith_88 rfl (lv_at hl 0 rfl) ?_
                refine r_getr X hT 65 3 68 fk_0_18 rfl rfl (by decide) dX0_unfoldWith_89 ?_
                refine lv_aload_n hx hb dX0_unfoldWith_92 rfl (lv_at hl 0 rfl) ?_
                refine r_getr X hT 65 0 15 fk_0_30 rfl rfl (by decide) dX0_unfoldWith_93 ?_
                refine r_getr X hT 15 9 25 fk_0_63 rfl rfl (by decide) dX0_unfoldWith_96 ?_
                refine lv_iload_n hx hb dX0_unfoldWith_99 rfl (lv_at hl 1 rfl) ?_
                refine r_iald X hT 25 rfl (by decide) (v_in h11 (by decide)) dX0_unfoldWith_100 ?_
                refine lv_dup2_11 hx hb dX0_unfoldWith_101 rfl rfl ?_
                refine r_iald X hT 68 rfl (by decide) (v_in (Rg_at hR7 25 x65_1_2.toNatClampNeg 0 11 (v_lt (v_in h11 (by decide))) rfl) (by decide)) dX0_unfoldWith_102 ?_
                refine lv_iconst (v := 1) hx hb dX0_unfoldWith_103 (by decide) ?_
                refine lv_aload_n hx hb dX0_unfoldWith_104 rfl (lv_at hl 0 rfl) ?_
                refine r_getr X hT 65 0 15 fk_0_30 rfl rfl (by decide) dX0_unfoldWith_105 ?_
                refine r_getr X hT 15 8 24 fk_0_66 rfl rfl (by decide) dX0_unfoldWith_108 ?_
                refine lv_iload_n hx hb dX0_unfoldWith_111 rfl (lv_at hl 1 rfl) ?_
                refine r_iald X hT 24 rfl (by decide) (v_in h11 (by decide)) dX0_unfoldWith_112 ?_
                refine q_ishl hx hb dX0_unfoldWith_113 (fun x17 ex17 => ?_)
                have h18 : rg 1 32 x17 := rg_shl1 ex17 (Rg_at hR7 24 x65_1_2.toNatClampNeg 0 5 (v_lt (v_in h11 (by decide))) rfl) (by decide)
                refine q_ior hx hb dX0_unfoldWith_114 (fun x19 ex19 => ?_)
                refine r_iast X hT hS 68 rfl (by decide) (v_in (Rg_at hR7 25 x65_1_2.toNatClampNeg 0 11 (v_lt (v_in h11 (by decide))) rfl) (by decide)) dX0_unfoldWith_115 (fun H locs i20 ei20 hT hS => ?_)
                have hR20 := Rg_put hR7 ei20 (-2147483648) 2147483647 rfl (rg_top x19) (by decide)
                have hF20 := Fr_puti hF7 ei20 (by decide)
                obtain ⟨x21, ex21⟩ : ∃ y : Int32, y = x65_1_2 + 1 := ⟨_, rfl⟩
                refine lv_iinc (v := x21) (lv' := [(2, .int x21), (0, .ref (h 65))]) hx hb dX0_unfoldWith_116 hl (k := 1) rfl (by rw [ex21]; rfl) (by decide) rfl (fun ls hl => ?_)
                obtain ⟨hx21, ax21⟩ := rg_add 1 20 ex21 h11 (rg_k (by decide) : rg 1 1 1) (by decide)
                replace ax21 : x21.toInt = x65_1_2.toInt + 1 := ax21
                refine lv_goto (tgt := 65) hx hb dX0_unfoldWith_119 (by decide) ?_
                exact ih8_ x21 i20 g7 _ _ _ (rg_w hx21 (by decide) : rg 0 20 x21) hR20 hF20 hT hS (lv_sub hl [1, 0] rfl) (m_up ax21 hx21 (by decide) hm8_)
        exact L65_6 _ (0) i3 g3 _ _ _ (rg_w (rg_k (by decide) : rg 0 0 0) (by decide) : rg 0 20 0) hR3 hF3 hT hS (lv_sub hl [1, 0] rfl) (Nat.lt_succ_self _)
      ·
        have q5 : x10_2.toInt < (i3 15 15).toInt := i_nle c5
        have h22 : rg 0 7 x10_2 := t_ltx 0 7 hhx10_2 (Rg_at hR3 15 15 0 8 (by decide) rfl) (i_nle c5) (by decide)
        have h23 : rg 1 8 (i3 15 15) := t_lty 1 8 hhx10_2 (Rg_at hR3 15 15 0 8 (by decide) rfl) (i_nle c5) (by decide)
        refine lv_iload_n hx hb dX0_unfoldWith_21 rfl (lv_at hl 1 rfl) ?_
        refine lv_iload_n hx hb dX0_unfoldWith_22 rfl (lv_at hl 2 rfl) ?_
        refine e_Ni (As := [.int a_a, .int x10_2]) (rest := []) X Y hT hS (m_X8_hasBit a_a x10_2) sk_X8_hasBit Y.n1 hd_X8_hasBit ⟨rfl, rfl⟩ ⟨Nat.le_of_ble_eq_true rfl, Nat.le_of_ble_eq_true rfl⟩ hl.1 rfl (Nat.le_of_ble_eq_true rfl) dX0_unfoldWith_23 ⟨Nat.zero_le _, Nat.zero_le _⟩ (fun r24 i24 g24 H locs hq hT hS => ?_)
        obtain ⟨eh24, hr24⟩ := hq
        rw [(Prod.mk.inj eh24).1, (Prod.mk.inj eh24).2] at hT
        refine lv_if_eq (tgt := 57) hx hb dX0_unfoldWith_26 (by decide) (fun c25 => ?_) (fun c25 => ?_)
        ·
          have q25 : r24.toInt = 0 := i_eq c25
          have h26 : rg 0 0 r24 := t_eqx 0 0 hr24 (rg_k (by decide) : rg 0 0 0) (i_eq c25) (by decide)
          obtain ⟨x27, ex27⟩ : ∃ y : Int32, y = x10_2 + 1 := ⟨_, rfl⟩
          refine lv_iinc (v := x27) (lv' := [(2, .int x27), (0, .ref (h 65)), (1, .int a_a)]) hx hb dX0_unfoldWith_57 hl (k := 2) rfl (by rw [ex27]; rfl) (by decide) rfl (fun ls hl => ?_)
          obtain ⟨hx27, ax27⟩ := rg_add 1 8 ex27 h22 (rg_k (by decide) : rg 1 1 1) (by decide)
          replace ax27 : x27.toInt = x10_2.toInt + 1 := ax27
          refine lv_goto (tgt := 10) hx hb dX0_unfoldWith_60 (by decide) ?_
          exact ih4_ x27 i3 g3 _ _ _ (rg_w hx27 (by decide) : rg 0 8 x27) hR3 hF3 hT hS (lv_sub hl [1, 2, 0] rfl) (m_up ax27 hx27 (by decide) hm4_)
        ·
          have q25 : ¬ r24.toInt = 0 := i_ne c25
          have h28 : rg 1 1 r24 := t_nelo 1 hr24 (rg_k (by decide) : rg 0 0 0) (i_ne c25) (by decide)
          refine lv_aload_n hx hb dX0_unfoldWith_29 rfl (lv_at hl 0 rfl) ?_
          refine r_getr X hT 65 3 68 fk_0_18 rfl rfl (by decide) dX0_unfoldWith_30 ?_
          refine lv_aload_n hx hb dX0_unfoldWith_33 rfl (lv_at hl 0 rfl) ?_
          refine r_getr X hT 65 0 15 fk_0_30 rfl rfl (by decide) dX0_unfoldWith_34 ?_
          refine r_getr X hT 15 6 22 fk_0_76 rfl rfl (by decide) dX0_unfoldWith_37 ?_
          refine lv_iload_n hx hb dX0_unfoldWith_40 rfl (lv_at hl 2 rfl) ?_
          refine r_iald X hT 22 rfl (by decide) (v_in h22 (by decide)) dX0_unfoldWith_41 ?_
          refine lv_dup2_11 hx hb dX0_unfoldWith_42 rfl rfl ?_
          refine r_iald X hT 68 rfl (by decide) (v_in (Rg_at hR3 22 x10_2.toNatClampNeg 0 11 (v_lt (v_in h22 (by decide))) rfl) (by decide)) dX0_unfoldWith_43 ?_
          refine lv_iconst (v := 1) hx hb dX0_unfoldWith_44 (by decide) ?_
          refine lv_aload_n hx hb dX0_unfoldWith_45 rfl (lv_at hl 0 rfl) ?_
          refine r_getr X hT 65 0 15 fk_0_30 rfl rfl (by decide) dX0_unfoldWith_46 ?_
          refine r_getr X hT 15 5 21 fk_0_79 rfl rfl (by decide) dX0_unfoldWith_49 ?_
          refine lv_iload_n hx hb dX0_unfoldWith_52 rfl (lv_at hl 2 rfl) ?_
          refine r_iald X hT 21 rfl (by decide) (v_in h22 (by decide)) dX0_unfoldWith_53 ?_
          refine q_ishl hx hb dX0_unfoldWith_54 (fun x29 ex29 => ?_)
          have h30 : rg 1 32 x29 := rg_shl1 ex29 (Rg_at hR3 21 x10_2.toNatClampNeg 0 5 (v_lt (v_in h22 (by decide))) rfl) (by decide)
          refine q_ior hx hb dX0_unfoldWith_55 (fun x31 ex31 => ?_)
          refine r_iast X hT hS 68 rfl (by decide) (v_in (Rg_at hR3 22 x10_2.toNatClampNeg 0 11 (v_lt (v_in h22 (by decide))) rfl) (by decide)) dX0_unfoldWith_56 (fun H locs i32 ei32 hT hS => ?_)
          have hR32 := Rg_put hR3 ei32 (-2147483648) 2147483647 rfl (rg_top x31) (by decide)
          have hF32 := Fr_puti hF3 ei32 (by decide)
          obtain ⟨x33, ex33⟩ : ∃ y : Int32, y = x10_2 + 1 := ⟨_, rfl⟩
          refine lv_iinc (v := x33) (lv' := [(2, .int x33), (0, .ref (h 65)), (1, .int a_a)]) hx hb dX0_unfoldWith_57 hl (k := 2) rfl (by rw [ex33]; rfl) (by decide) rfl (fun ls hl => ?_)
          obtain ⟨hx33, ax33⟩ := rg_add 1 8 ex33 h22 (rg_k (by decide) : rg 1 1 1) (by decide)
          replace ax33 : x33.toInt = x10_2.toInt + 1 := ax33
          refine lv_goto (tgt := 10) hx hb dX0_unfoldWith_60 (by decide) ?_
          exact ih4_ x33 i32 g3 _ _ _ (rg_w hx33 (by decide) : rg 0 8 x33) hR32 hF32 hT hS (lv_sub hl [1, 2, 0] rfl) (m_up ax33 hx33 (by decide) hm4_)
  exact L10_2 _ (0) i1 g1 _ _ _ (rg_w (rg_k (by decide) : rg 0 0 0) (by decide) : rg 0 8 0) hR1 hF1 hT hS (lv_sub hl [1, 2, 0] rfl) (Nat.lt_succ_self _)
set_option maxRecDepth 100000 in
set_option maxHeartbeats 4000000 in
theorem m_X8_current {l : Launch} {D : va_G} {h : Nat → Nat} {cz : Nat → ClassId} {z : EZ} {i : Nat → Nat → Int32} {g : Nat → Nat → Int64} (hR : Rg rA i) : DtR l yX8_current cX8_current 1 (some (.object "UncutTale$Course")) ({ frames := 4, cells := 0, slots := 0, locals := 90 } : Room) D h cz z i g 65 [.ref (h 0)] (fun u => Rg rA u.1 ∧ Fr [0, 65, 66, 67, 68, 69, 70] [] i g u) := by
  refine e_R pn_X8_current (Nat.le_of_ble_eq_true rfl) ?_
  intro p e s m args below meth c ls Q X Y hret hT hl hS
  have hx := X.1
  have hb := X.2.1
  have hl : lv_has ls 1 [(0, .ref (h 0))] := hl
  have hF : Fr [0, 65, 66, 67, 68, 69, 70] [] i g (i, g) := Fr_rf _ _ _ _
  refine lv_aload_n hx hb dX8_current_0 rfl (lv_at hl 0 rfl) ?_
  refine r_geti X hT 0 12 fk_8_87 rfl rfl (by decide) dX8_current_1 ?_
  refine lv_if_eq (tgt := 34) hx hb dX8_current_4 (by decide) (fun c1 => ?_) (fun c1 => ?_)
  ·
    have q1 : (i 0 12).toInt = 0 := i_eq c1
    have h2 : rg 0 0 (i 0 12) := t_eqx 0 0 (Rg_at hR 0 12 0 1 (by decide) rfl) (rg_k (by decide) : rg 0 0 0) (i_eq c1) (by decide)
    refine lv_aload_n hx hb dX8_current_34 rfl (lv_at hl 0 rfl) ?_
    refine r_getr X hT 0 7 65 fk_8_55 rfl rfl (by decide) dX8_current_35 ?_
    exact hret _ _ _ _ _ _ dX8_current_38 hT hS ⟨hR, hF⟩
  ·
    have q1 : ¬ (i 0 12).toInt = 0 := i_ne c1
    have h3 : rg 1 1 (i 0 12) := t_nelo 1 (Rg_at hR 0 12 0 1 (by decide) rfl) (rg_k (by decide) : rg 0 0 0) (i_ne c1) (by decide)
    refine lv_aload_n hx hb dX8_current_7 rfl (lv_at hl 0 rfl) ?_
    refine r_getr X hT 0 7 65 fk_8_55 rfl rfl (by decide) dX8_current_8 ?_
    refine lv_iconst (v := (-1)) hx hb dX8_current_11 (by decide) ?_
    refine e_Vv (As := [.int (-1)]) (rest := []) X Y hT hS (m_X0_begin_65 hR ((-1))) mk_X0_begin gm_740 rfl rfl (by decide) hd_X0_begin ⟨rfl, rfl⟩ ⟨Nat.le_of_ble_eq_true rfl, Nat.le_of_ble_eq_true rfl⟩ hl.1 rfl (Nat.le_of_ble_eq_true rfl) dX8_current_12 ⟨Nat.zero_le _, Nat.zero_le _⟩ (fun i4 g4 H locs hq hT hS => ?_)
    obtain ⟨hR4, hf4⟩ := hq
    have hF4 := Fr_tr hF hf4 (by decide)
    refine lv_aload_n hx hb dX8_current_15 rfl (lv_at hl 0 rfl) ?_
    refine r_getr X hT 0 7 65 fk_8_55 rfl rfl (by decide) dX8_current_16 ?_
    refine lv_aload_n hx hb dX8_current_19 rfl (lv_at hl 0 rfl) ?_
    refine r_getr X hT 0 3 15 fk_8_32 rfl rfl (by decide) dX8_current_20 ?_
    refine e_Vi (As := []) (rest := [.ref (h 65)]) X Y hT hS (m_X6_everyKnife_15 hR4) mk_X6_everyKnife gm_748 rfl rfl (by decide) hd_X6_everyKnife ⟨rfl, rfl⟩ ⟨Nat.le_of_ble_eq_true rfl, Nat.le_of_ble_eq_true rfl⟩ hl.1 rfl (Nat.le_of_ble_eq_true rfl) dX8_current_23 ⟨Nat.zero_le _, Nat.zero_le _⟩ (fun r5 i5 g5 H locs hq hT hS => ?_)
    obtain ⟨eh5, hr5⟩ := hq
    rw [(Prod.mk.inj eh5).1, (Prod.mk.inj eh5).2] at hT
    refine e_Vv (As := [.int r5]) (rest := []) X Y hT hS (m_X0_unfoldWith_65 hR4 r5) mk_X0_unfoldWith gm_752 rfl rfl (by decide) hd_X0_unfoldWith ⟨rfl, rfl⟩ ⟨Nat.le_of_ble_eq_true rfl, Nat.le_of_ble_eq_true rfl⟩ hl.1 rfl (Nat.le_of_ble_eq_true rfl) dX8_current_26 ⟨Nat.zero_le _, Nat.zero_le _⟩ (fun i6 g6 H locs hq hT hS => ?_)
    obtain ⟨hR6, hf6⟩ := hq
    have hF6 := Fr_tr hF4 hf6 (by decide)
    refine lv_aload_n hx hb dX8_current_29 rfl (lv_at hl 0 rfl) ?_
    refine lv_iconst (v := 0) hx hb dX8_current_30 (by decide) ?_
    refine r_puti X hT hS 0 12 pk_8_87 rfl rfl rfl rfl (by decide) dX8_current_31 (fun H locs i7 ei7 hT hS => ?_)
    have hR7 := Rg_put hR6 ei7 0 1 rfl (rg_k (by decide) : rg 0 0 0) (by decide)
    have hF7 := Fr_puti hF6 ei7 (by decide)
    refine lv_aload_n hx hb dX8_current_34 rfl (lv_at hl 0 rfl) ?_
    refine r_getr X hT 0 7 65 fk_8_55 rfl rfl (by decide) dX8_current_35 ?_
    exact hret _ _ _ _ _ _ dX8_current_38 hT hS ⟨hR7, hF7⟩
set_option maxRecDepth 100000 in
set_option maxHeartbeats 4000000 in
theorem m_X0_aired_65 {l : Launch} {D : va_G} {h : Nat → Nat} {cz : Nat → ClassId} {z : EZ} {i : Nat → Nat → Int32} {g : Nat → Nat → Int64} (hR : Rg rA i) (a_a : Int32) (a_b : Int32) (a_c : Int32) (ha_a : rg 0 5 a_a) (ha_b : rg 0 99 a_b) (ha_c : rg 0 11 a_c) : DtI l yX0_aired cX0_aired 4 (some .int) ({ frames := 1, cells := 0, slots := 0, locals := 40 } : Room) D h cz z i g [.ref (h 65), .int a_a, .int a_b, .int a_c] (fun r u => u = (i, g) ∧ rg 0 99 r) := by
  refine e_I pn_X0_aired (Nat.le_of_ble_eq_true rfl) ?_
  intro p e s m args below meth c ls Q X Y hret hT hl hS
  have hx := X.1
  have hb := X.2.1
  have hl : lv_has ls 4 [(0, .ref (h 65)), (1, .int a_a), (2, .int a_b), (3, .int a_c)] := hl
  refine lv_iconst (v := 0) hx hb dX0_aired_0 (by decide) ?_
  refine lv_iload_n hx hb dX0_aired_1 rfl (lv_at hl 2 rfl) ?_
  refine lv_bipush (v := 10) hx hb dX0_aired_2 (by decide) ?_
  refine lv_aload_n hx hb dX0_aired_4 rfl (lv_at hl 0 rfl) ?_
  refine r_getr X hT 65 2 67 fk_0_15 rfl rfl (by decide) dX0_aired_5 ?_
  refine lv_iload_n hx hb dX0_aired_8 rfl (lv_at hl 3 rfl) ?_
  refine lv_bipush (v := 6) hx hb dX0_aired_9 (by decide) ?_
  refine q_imul hx hb dX0_aired_11 (fun x1 ex1 => ?_)
  obtain ⟨hx1, ax1⟩ := rg_mul 0 66 ex1 ha_c (rg_k (by decide) : rg 6 6 6) (by decide)
  replace ax1 : x1.toInt = a_c.toInt * 6 := ax1
  refine lv_iload_n hx hb dX0_aired_12 rfl (lv_at hl 1 rfl) ?_
  refine q_iadd hx hb dX0_aired_13 (fun x2 ex2 => ?_)
  obtain ⟨hx2, ax2⟩ := rg_add 0 71 ex2 hx1 ha_a (by decide)
  replace ax2 : x2.toInt = x1.toInt + a_a.toInt := ax2
  refine r_iald X hT 67 rfl (by decide) (v_in hx2 (by decide)) dX0_aired_14 ?_
  refine q_imul hx hb dX0_aired_15 (fun x3 ex3 => ?_)
  obtain ⟨hx3, ax3⟩ := rg_mul 0 200 ex3 (rg_k (by decide) : rg 10 10 10) (Rg_at hR 67 x2.toNatClampNeg 0 20 (v_lt (v_in hx2 (by decide))) rfl) (by decide)
  replace ax3 : x3.toInt = 10 * (i 67 x2.toNatClampNeg).toInt := ax3
  refine q_isub hx hb dX0_aired_16 (fun x4 ex4 => ?_)
  obtain ⟨hx4, ax4⟩ := rg_sub (-200) 99 ex4 ha_b hx3 (by decide)
  replace ax4 : x4.toInt = a_b.toInt - x3.toInt := ax4
  refine e_mmax X hl.1 gm_781 gm_782 gm_118 mw_e_mmax (Nat.le_of_ble_eq_true rfl) (Nat.le_of_ble_eq_true rfl) ⟨Nat.zero_le _, Nat.zero_le _⟩ dX0_aired_17 (fun x5 ex5 => ?_)
  have h6 : rg 0 99 x5 := rg_mx ex5 (rg_k (by decide) : rg 0 0 0) hx4 (by decide)
  exact hret x5 _ _ _ _ _ _ dX0_aired_20 hT hS ⟨rfl, h6⟩
set_option maxRecDepth 100000 in
set_option maxHeartbeats 4000000 in
theorem m_J6_bitCount_0f7a4 {l : Launch} {D : va_G} {h : Nat → Nat} {cz : Nat → ClassId} {z : EZ} {i : Nat → Nat → Int32} {g : Nat → Nat → Int64} (a_a : Int32) : DtI l yJ6_bitCount_0f7a4 cJ6_bitCount_0f7a4 1 (some .int) ({ frames := 0, cells := 0, slots := 0, locals := 0 } : Room) D h cz z i g [.int a_a] (fun r u => u = (i, g) ∧ rg 0 63 r) := by
  refine e_I pn_J6_bitCount_0f7a4 (Nat.le_of_ble_eq_true rfl) ?_
  intro p e s m args below meth c ls Q X Y hret hT hl hS
  have hx := X.1
  have hb := X.2.1
  have hl : lv_has ls 1 [(0, .int a_a)] := hl
  refine lv_iload_n hx hb dJ6_bitCount_0f7a4_0 rfl (lv_at hl 0 rfl) ?_
  refine lv_iload_n hx hb dJ6_bitCount_0f7a4_1 rfl (lv_at hl 0 rfl) ?_
  refine lv_iconst (v := 1) hx hb dJ6_bitCount_0f7a4_2 (by decide) ?_
  refine q_iushr hx hb dJ6_bitCount_0f7a4_3 (fun x1 ex1 => ?_)
  refine lv_ldcw (v := 1431655765) hx hb X.2.2.2.1 (X.2.2.2.2.1 _ gm_791) dJ6_bitCount_0f7a4_4 ?_
  refine q_iand hx hb dJ6_bitCount_0f7a4_7 (fun x2 ex2 => ?_)
  have h3 : rg 0 1431655765 x2 := rg_andr ex2 (rg_k (by decide) : rg 1431655765 1431655765 1431655765) (by decide)
  refine q_isub hx hb dJ6_bitCount_0f7a4_8 (fun x4 ex4 => ?_)
  refine lv_istore_n (lv' := [(0, .int x4)]) hx hb dJ6_bitCount_0f7a4_9 rfl hl (by decide) rfl (fun ls hl => ?_)
  refine lv_iload_n hx hb dJ6_bitCount_0f7a4_10 rfl (lv_at hl 0 rfl) ?_
  refine lv_ldcw (v := 858993459) hx hb X.2.2.2.1 (X.2.2.2.2.1 _ gm_792) dJ6_bitCount_0f7a4_11 ?_
  refine q_iand hx hb dJ6_bitCount_0f7a4_14 (fun x5 ex5 => ?_)
  have h6 : rg 0 858993459 x5 := rg_andr ex5 (rg_k (by decide) : rg 858993459 858993459 858993459) (by decide)
  refine lv_iload_n hx hb dJ6_bitCount_0f7a4_15 rfl (lv_at hl 0 rfl) ?_
  refine lv_iconst (v := 2) hx hb dJ6_bitCount_0f7a4_16 (by decide) ?_
  refine q_iushr hx hb dJ6_bitCount_0f7a4_17 (fun x7 ex7 => ?_)
  refine lv_ldcw (v := 858993459) hx hb X.2.2.2.1 (X.2.2.2.2.1 _ gm_792) dJ6_bitCount_0f7a4_18 ?_
  refine q_iand hx hb dJ6_bitCount_0f7a4_21 (fun x8 ex8 => ?_)
  have h9 : rg 0 858993459 x8 := rg_andr ex8 (rg_k (by decide) : rg 858993459 858993459 858993459) (by decide)
  refine q_iadd hx hb dJ6_bitCount_0f7a4_22 (fun x10 ex10 => ?_)
  obtain ⟨hx10, ax10⟩ := rg_add 0 1717986918 ex10 h6 h9 (by decide)
  replace ax10 : x10.toInt = x5.toInt + x8.toInt := ax10
  refine lv_istore_n (lv' := [(0, .int x10)]) hx hb dJ6_bitCount_0f7a4_23 rfl hl (by decide) rfl (fun ls hl => ?_)
  refine lv_iload_n hx hb dJ6_bitCount_0f7a4_24 rfl (lv_at hl 0 rfl) ?_
  refine lv_iload_n hx hb dJ6_bitCount_0f7a4_25 rfl (lv_at hl 0 rfl) ?_
  refine lv_iconst (v := 4) hx hb dJ6_bitCount_0f7a4_26 (by decide) ?_
  refine q_iushr hx hb dJ6_bitCount_0f7a4_27 (fun x11 ex11 => ?_)
  refine q_iadd hx hb dJ6_bitCount_0f7a4_28 (fun x12 ex12 => ?_)
  refine lv_ldcw (v := 252645135) hx hb X.2.2.2.1 (X.2.2.2.2.1 _ gm_793) dJ6_bitCount_0f7a4_29 ?_
  refine q_iand hx hb dJ6_bitCount_0f7a4_32 (fun x13 ex13 => ?_)
  have h14 : rg 0 252645135 x13 := rg_andr ex13 (rg_k (by decide) : rg 252645135 252645135 252645135) (by decide)
  refine lv_istore_n (lv' := [(0, .int x13)]) hx hb dJ6_bitCount_0f7a4_33 rfl hl (by decide) rfl (fun ls hl => ?_)
  refine lv_iload_n hx hb dJ6_bitCount_0f7a4_34 rfl (lv_at hl 0 rfl) ?_
  refine lv_iload_n hx hb dJ6_bitCount_0f7a4_35 rfl (lv_at hl 0 rfl) ?_
  refine lv_bipush (v := 8) hx hb dJ6_bitCount_0f7a4_36 (by decide) ?_
  refine q_iushr hx hb dJ6_bitCount_0f7a4_38 (fun x15 ex15 => ?_)
  refine q_iadd hx hb dJ6_bitCount_0f7a4_39 (fun x16 ex16 => ?_)
  refine lv_istore_n (lv' := [(0, .int x16)]) hx hb dJ6_bitCount_0f7a4_40 rfl hl (by decide) rfl (fun ls hl => ?_)
  refine lv_iload_n hx hb dJ6_bitCount_0f7a4_41 rfl (lv_at hl 0 rfl) ?_
  refine lv_iload_n hx hb dJ6_bitCount_0f7a4_42 rfl (lv_at hl 0 rfl) ?_
  refine lv_bipush (v := 16) hx hb dJ6_bitCount_0f7a4_43 (by decide) ?_
  refine q_iushr hx hb dJ6_bitCount_0f7a4_45 (fun x17 ex17 => ?_)
  refine q_iadd hx hb dJ6_bitCount_0f7a4_46 (fun x18 ex18 => ?_)
  refine lv_istore_n (lv' := [(0, .int x18)]) hx hb dJ6_bitCount_0f7a4_47 rfl hl (by decide) rfl (fun ls hl => ?_)
  refine lv_iload_n hx hb dJ6_bitCount_0f7a4_48 rfl (lv_at hl 0 rfl) ?_
  refine lv_bipush (v := 63) hx hb dJ6_bitCount_0f7a4_49 (by decide) ?_
  refine q_iand hx hb dJ6_bitCount_0f7a4_51 (fun x19 ex19 => ?_)
  have h20 : rg 0 63 x19 := rg_andr ex19 (rg_k (by decide) : rg 63 63 63) (by decide)
  exact hret x19 _ _ _ _ _ _ dJ6_bitCount_0f7a4_52 hT hS ⟨rfl, h20⟩
set_option maxRecDepth 100000 in
set_option maxHeartbeats 4000000 in
theorem m_X0_waited_65 {l : Launch} {D : va_G} {h : Nat → Nat} {cz : Nat → ClassId} {z : EZ} {i : Nat → Nat → Int32} {g : Nat → Nat → Int64} (hR : Rg rA i) (a_a : Int32) (a_b : Int32) (a_c : Int32) (ha_a : rg 0 5 a_a) (ha_b : rg 0 99 a_b) : DtI l yX0_waited cX0_waited 5 (some .int) ({ frames := 1, cells := 0, slots := 0, locals := 40 } : Room) D h cz z i g [.ref (h 65), .int a_a, .int a_b, .int a_c] (fun r u => u = (i, g) ∧ rg 0 99 r) := by
  refine e_I pn_X0_waited (Nat.le_of_ble_eq_true rfl) ?_
  intro p e s m args below meth c ls Q X Y hret hT hl hS
  have hx := X.1
  have hb := X.2.1
  have hl : lv_has ls 5 [(0, .ref (h 65)), (1, .int a_a), (2, .int a_b), (3, .int a_c)] := hl
  refine lv_aload_n hx hb dX0_waited_0 rfl (lv_at hl 0 rfl) ?_
  refine r_getr X hT 65 0 15 fk_0_30 rfl rfl (by decide) dX0_waited_1 ?_
  refine r_getr X hT 15 1 17 fk_0_117 rfl rfl (by decide) dX0_waited_4 ?_
  refine lv_iload_n hx hb dX0_waited_7 rfl (lv_at hl 1 rfl) ?_
  refine r_iald X hT 17 rfl (by decide) (v_in ha_a (by decide)) dX0_waited_8 ?_
  refine lv_istore (lv' := [(4, .int (i 17 a_a.toNatClampNeg)), (0, .ref (h 65)), (1, .int a_a), (2, .int a_b), (3, .int a_c)]) hx hb dX0_waited_9 hl (by decide) rfl (fun ls hl => ?_)
  refine lv_aload_n hx hb dX0_waited_11 rfl (lv_at hl 1 rfl) ?_
  refine r_geti X hT 65 7 fk_0_40 rfl rfl (by decide) dX0_waited_12 ?_
  rcases Int.lt_or_le (i 65 7).toInt 1 with c1 | c1
  ·
    refine lv_tableOut (tgt := 101) hx hb dX0_waited_15 (Or.inl c1) (by decide) ?_
    refine lv_bipush (v := 99) hx hb dX0_waited_101 (by decide) ?_
    refine lv_iload_n hx hb dX0_waited_103 rfl (lv_at hl 3 rfl) ?_
    refine lv_iload hx hb dX0_waited_104 (lv_at hl 0 rfl) ?_
    refine q_iadd hx hb dX0_waited_106 (fun x2 ex2 => ?_)
    obtain ⟨hx2, ax2⟩ := rg_add 0 108 ex2 ha_b (Rg_at hR 17 a_a.toNatClampNeg 0 9 (v_lt (v_in ha_a (by decide))) rfl) (by decide)
    replace ax2 : x2.toInt = a_b.toInt + (i 17 a_a.toNatClampNeg).toInt := ax2
    refine e_mmin X hl.1 gm_794 gm_529 gm_118 mw_e_mmin (Nat.le_of_ble_eq_true rfl) (Nat.le_of_ble_eq_true rfl) ⟨Nat.zero_le _, Nat.zero_le _⟩ dX0_waited_107 (fun x3 ex3 => ?_)
    have h4 : rg 0 99 x3 := rg_mn ex3 (rg_k (by decide) : rg 99 99 99) hx2 (by decide)
    exact hret x3 _ _ _ _ _ _ dX0_waited_110 hT hS ⟨rfl, h4⟩
  ·
    rcases Int.lt_or_le 3 (i 65 7).toInt with d1 | d1
    ·
      refine lv_tableOut (tgt := 101) hx hb dX0_waited_15 (Or.inr d1) (by decide) ?_
      refine lv_bipush (v := 99) hx hb dX0_waited_101 (by decide) ?_
      refine lv_iload_n hx hb dX0_waited_103 rfl (lv_at hl 3 rfl) ?_
      refine lv_iload hx hb dX0_waited_104 (lv_at hl 0 rfl) ?_
      refine q_iadd hx hb dX0_waited_106 (fun x5 ex5 => ?_)
      obtain ⟨hx5, ax5⟩ := rg_add 0 108 ex5 ha_b (Rg_at hR 17 a_a.toNatClampNeg 0 9 (v_lt (v_in ha_a (by decide))) rfl) (by decide)
      replace ax5 : x5.toInt = a_b.toInt + (i 17 a_a.toNatClampNeg).toInt := ax5
      refine e_mmin X hl.1 gm_794 gm_529 gm_118 mw_e_mmin (Nat.le_of_ble_eq_true rfl) (Nat.le_of_ble_eq_true rfl) ⟨Nat.zero_le _, Nat.zero_le _⟩ dX0_waited_107 (fun x6 ex6 => ?_)
      have h7 : rg 0 99 x6 := rg_mn ex6 (rg_k (by decide) : rg 99 99 99) hx5 (by decide)
      exact hret x6 _ _ _ _ _ _ dX0_waited_110 hT hS ⟨rfl, h7⟩
    ·
      rcases (show (i 65 7).toInt = 1 ∨ (i 65 7).toInt = 2 ∨ (i 65 7).toInt = 3 by omega) with f1 | f1 | f1
      ·
        refine lv_tableIn (tgt := 40) (off := 25) hx hb dX0_waited_15 (by omega) (by omega) (by rw [f1]; rfl) (by decide) ?_
        have h8 : rg 1 1 (i 65 7) := ⟨by omega, by omega⟩
        refine lv_bipush (v := 99) hx hb dX0_waited_40 (by decide) ?_
        refine lv_iload_n hx hb dX0_waited_42 rfl (lv_at hl 3 rfl) ?_
        refine lv_iload hx hb dX0_waited_43 (lv_at hl 0 rfl) ?_
        refine q_iadd hx hb dX0_waited_45 (fun x9 ex9 => ?_)
        obtain ⟨hx9, ax9⟩ := rg_add 0 108 ex9 ha_b (Rg_at hR 17 a_a.toNatClampNeg 0 9 (v_lt (v_in ha_a (by decide))) rfl) (by decide)
        replace ax9 : x9.toInt = a_b.toInt + (i 17 a_a.toNatClampNeg).toInt := ax9
        refine lv_aload_n hx hb dX0_waited_46 rfl (lv_at hl 1 rfl) ?_
        refine r_getr X hT 65 1 66 fk_0_9 rfl rfl (by decide) dX0_waited_47 ?_
        refine lv_iload_n hx hb dX0_waited_50 rfl (lv_at hl 2 rfl) ?_
        refine r_iald X hT 66 rfl (by decide) (v_in ha_a (by decide)) dX0_waited_51 ?_
        refine lv_iload_n hx hb dX0_waited_52 rfl (lv_at hl 4 rfl) ?_
        refine q_iand hx hb dX0_waited_53 (fun x10 ex10 => ?_)
        refine e_Si (As := [.int x10]) (rest := [.int x9, .int 99]) X Y hT hS (m_J6_bitCount_0f7a4 x10) sk_J6_bitCount_0f7a4 gm_788 hd_J6_bitCount_0f7a4 ⟨rfl, rfl⟩ ⟨Nat.le_of_ble_eq_true rfl, Nat.le_of_ble_eq_true rfl⟩ hl.1 rfl (Nat.le_of_ble_eq_true rfl) dX0_waited_54 ⟨Nat.zero_le _, Nat.zero_le _⟩ (fun r11 i11 g11 H locs hq hT hS => ?_)
        obtain ⟨eh11, hr11⟩ := hq
        rw [(Prod.mk.inj eh11).1, (Prod.mk.inj eh11).2] at hT
        refine q_iadd hx hb dX0_waited_57 (fun x12 ex12 => ?_)
        obtain ⟨hx12, ax12⟩ := rg_add 0 171 ex12 hx9 hr11 (by decide)
        replace ax12 : x12.toInt = x9.toInt + r11.toInt := ax12
        refine e_mmin X hl.1 gm_794 gm_529 gm_118 mw_e_mmin (Nat.le_of_ble_eq_true rfl) (Nat.le_of_ble_eq_true rfl) ⟨Nat.zero_le _, Nat.zero_le _⟩ dX0_waited_58 (fun x13 ex13 => ?_)
        have h14 : rg 0 99 x13 := rg_mn ex13 (rg_k (by decide) : rg 99 99 99) hx12 (by decide)
        exact hret x13 _ _ _ _ _ _ dX0_waited_61 hT hS ⟨rfl, h14⟩
      ·
        refine lv_tableIn (tgt := 62) (off := 47) hx hb dX0_waited_15 (by omega) (by omega) (by rw [f1]; rfl) (by decide) ?_
        have h15 : rg 2 2 (i 65 7) := ⟨by omega, by omega⟩
        refine lv_bipush (v := 99) hx hb dX0_waited_62 (by decide) ?_
        refine lv_iload_n hx hb dX0_waited_64 rfl (lv_at hl 3 rfl) ?_
        refine lv_iload hx hb dX0_waited_65 (lv_at hl 0 rfl) ?_
        refine q_iadd hx hb dX0_waited_67 (fun x16 ex16 => ?_)
        obtain ⟨hx16, ax16⟩ := rg_add 0 108 ex16 ha_b (Rg_at hR 17 a_a.toNatClampNeg 0 9 (v_lt (v_in ha_a (by decide))) rfl) (by decide)
        replace ax16 : x16.toInt = a_b.toInt + (i 17 a_a.toNatClampNeg).toInt := ax16
        refine lv_iload_n hx hb dX0_waited_68 rfl (lv_at hl 3 rfl) ?_
        refine q_iadd hx hb dX0_waited_69 (fun x17 ex17 => ?_)
        obtain ⟨hx17, ax17⟩ := rg_add 0 207 ex17 hx16 ha_b (by decide)
        replace ax17 : x17.toInt = x16.toInt + a_b.toInt := ax17
        refine e_mmin X hl.1 gm_794 gm_529 gm_118 mw_e_mmin (Nat.le_of_ble_eq_true rfl) (Nat.le_of_ble_eq_true rfl) ⟨Nat.zero_le _, Nat.zero_le _⟩ dX0_waited_70 (fun x18 ex18 => ?_)
        have h19 : rg 0 99 x18 := rg_mn ex18 (rg_k (by decide) : rg 99 99 99) hx17 (by decide)
        exact hret x18 _ _ _ _ _ _ dX0_waited_73 hT hS ⟨rfl, h19⟩
      ·
        refine lv_tableIn (tgt := 74) (off := 59) hx hb dX0_waited_15 (by omega) (by omega) (by rw [f1]; rfl) (by decide) ?_
        have h20 : rg 3 3 (i 65 7) := ⟨by omega, by omega⟩
        refine lv_aload_n hx hb dX0_waited_74 rfl (lv_at hl 1 rfl) ?_
        refine r_getr X hT 65 1 66 fk_0_9 rfl rfl (by decide) dX0_waited_75 ?_
        refine lv_iload_n hx hb dX0_waited_78 rfl (lv_at hl 2 rfl) ?_
        refine r_iald X hT 66 rfl (by decide) (v_in ha_a (by decide)) dX0_waited_79 ?_
        refine lv_iload_n hx hb dX0_waited_80 rfl (lv_at hl 4 rfl) ?_
        refine lv_iconst (v := (-1)) hx hb dX0_waited_81 (by decide) ?_
        refine q_ixor hx hb dX0_waited_82 (fun x21 ex21 => ?_)
        refine q_iand hx hb dX0_waited_83 (fun x22 ex22 => ?_)
        refine lv_if_ne (tgt := 99) hx hb dX0_waited_84 (by decide) (fun c23 => ?_) (fun c23 => ?_)
        ·
          have q23 : ¬ x22.toInt = 0 := i_ne c23
          refine lv_iload_n hx hb dX0_waited_99 rfl (lv_at hl 3 rfl) ?_
          exact hret a_b _ _ _ _ _ _ dX0_waited_100 hT hS ⟨rfl, ha_b⟩
        ·
          have q23 : x22.toInt = 0 := i_eq c23
          have h24 : rg 0 0 x22 := t_eqx 0 0 (rg_top x22) (rg_k (by decide) : rg 0 0 0) (i_eq c23) (by decide)
          refine lv_bipush (v := 99) hx hb dX0_waited_87 (by decide) ?_
          refine lv_iload_n hx hb dX0_waited_89 rfl (lv_at hl 3 rfl) ?_
          refine lv_iload hx hb dX0_waited_90 (lv_at hl 0 rfl) ?_
          refine q_iadd hx hb dX0_waited_92 (fun x25 ex25 => ?_)
          obtain ⟨hx25, ax25⟩ := rg_add 0 108 ex25 ha_b (Rg_at hR 17 a_a.toNatClampNeg 0 9 (v_lt (v_in ha_a (by decide))) rfl) (by decide)
          replace ax25 : x25.toInt = a_b.toInt + (i 17 a_a.toNatClampNeg).toInt := ax25
          refine e_mmin X hl.1 gm_794 gm_529 gm_118 mw_e_mmin (Nat.le_of_ble_eq_true rfl) (Nat.le_of_ble_eq_true rfl) ⟨Nat.zero_le _, Nat.zero_le _⟩ dX0_waited_93 (fun x26 ex26 => ?_)
          have h27 : rg 0 99 x26 := rg_mn ex26 (rg_k (by decide) : rg 99 99 99) hx25 (by decide)
          refine lv_goto (tgt := 100) hx hb dX0_waited_96 (by decide) ?_
          exact hret x26 _ _ _ _ _ _ dX0_waited_100 hT hS ⟨rfl, h27⟩
set_option maxRecDepth 100000 in
set_option maxHeartbeats 4000000 in
theorem m_X0_follow_65 {l : Launch} {D : va_G} {h : Nat → Nat} {cz : Nat → ClassId} {z : EZ} {i : Nat → Nat → Int32} {g : Nat → Nat → Int64} (hR : Rg rA i) (a_a : Int32) (a_b : Int32) (a_c : Int32) (ha_a : rg 0 5 a_a) (ha_b : rg 0 60 a_b) : DtI l yX0_follow cX0_follow 6 (some .int) ({ frames := 2, cells := 0, slots := 0, locals := 64 } : Room) D h cz z i g [.ref (h 65), .int a_a, .int a_b, .int a_c] (fun r u => Rg rA u.1 ∧ Fr [71] [] i g u ∧ rg 0 99 r) := by
  refine e_I pn_X0_follow (Nat.le_of_ble_eq_true rfl) ?_
  intro p e s m args below meth c ls Q X Y hret hT hl hS
  have hx := X.1
  have hb := X.2.1
  have hl : lv_has ls 6 [(0, .ref (h 65)), (1, .int a_a), (2, .int a_b), (3, .int a_c)] := hl
  have hF : Fr [71] [] i g (i, g) := Fr_rf _ _ _ _
  refine lv_iload_n hx hb dX0_follow_0 rfl (lv_at hl 2 rfl) ?_
  refine lv_istore (lv' := [(4, .int a_b), (0, .ref (h 65)), (1, .int a_a), (2, .int a_b), (3, .int a_c)]) hx hb dX0_follow_1 hl (by decide) rfl (fun ls hl => ?_)
  refine lv_aload_n hx hb dX0_follow_3 rfl (lv_at hl 1 rfl) ?_
  refine r_getr X hT 65 6 71 fk_0_27 rfl rfl (by decide) dX0_follow_4 ?_
  refine lv_iconst (v := 0) hx hb dX0_follow_7 (by decide) ?_
  refine lv_iload hx hb dX0_follow_8 (lv_at hl 0 rfl) ?_
  refine r_iastc X hT hS 71 0 rfl (by decide) (v_in (rg_k (by decide) : rg 0 0 0) (by decide)) (by decide) dX0_follow_10 (fun H locs i1 ei1 hT hS => ?_)
  have hR1 := Rg_put hR ei1 0 99 rfl ha_b (by decide)
  have hF1 := Fr_puti hF ei1 (by decide)
  refine lv_iconst (v := 0) hx hb dX0_follow_11 (by decide) ?_
  refine lv_istore (lv' := [(5, .int 0), (4, .int a_b), (0, .ref (h 65)), (1, .int a_a), (2, .int a_b), (3, .int a_c)]) hx hb dX0_follow_12 hl (by decide) rfl (fun ls hl => ?_)
  have L14_2 : ∀ (n4_ : Nat) (x14_4 : Int32) (x14_5 : Int32) (i3 : Nat → Nat → Int32) (g3 : Nat → Nat → Int64) (H : Heap) (locs : List Loc) (ls : Array Slot), rg 0 99 x14_4 → rg 0 12 x14_5 → Rg rA i3 → Fr [71] [] i g (i3, g3) → TH D h cz i3 g3 H → va_S (hA h) s.heap H locs → lv_has ls 6 [(0, .ref (h 65)), (1, .int a_a), (3, .int a_c), (4, .int x14_4), (5, .int x14_5)] → (12 - x14_5.toInt).toNat < n4_ → W p l e ({ frames := 2, cells := 0, slots := 0, locals := 64 } : Room) s m args below meth c H locs 0 0 Q (F0 m 14 ls []) := by
    intro n4_
    induction n4_ with
    | zero => intro x14_4 x14_5 i3 g3 H locs ls hhx14_4 hhx14_5 hR3 hF3 hT hS hl hm4_; exact absurd hm4_ (Nat.not_lt_zero _)
    | succ n4_ ih4_ =>
      intro x14_4 x14_5 i3 g3 H locs ls hhx14_4 hhx14_5 hR3 hF3 hT hS hl hm4_
      refine lv_iload hx hb dX0_follow_14 (lv_at hl 4 rfl) ?_
      refine lv_iload_n hx hb dX0_follow_16 rfl (lv_at hl 2 rfl) ?_
      refine lv_icmp_ge (tgt := 103) hx hb dX0_follow_17 (by decide) (fun c5 => ?_) (fun c5 => ?_)
      ·
        have q5 : a_c.toInt ≤ x14_5.toInt := i_le c5
        have h6 : rg (-2147483648) 12 a_c := t_lex (-2147483648) 12 (rg_top a_c) hhx14_5 (i_le c5) (by decide)
        refine lv_iload hx hb dX0_follow_103 (lv_at hl 3 rfl) ?_
        exact hret x14_4 _ _ _ _ _ _ dX0_follow_105 hT hS ⟨hR3, hF3, hhx14_4⟩
      ·
        have q5 : x14_5.toInt < a_c.toInt := i_nle c5
        have h7 : rg 1 2147483647 a_c := t_lty 1 2147483647 hhx14_5 (rg_top a_c) (i_nle c5) (by decide)
        refine lv_iload hx hb dX0_follow_20 (lv_at hl 4 rfl) ?_
        refine lv_bipush (v := 12) hx hb dX0_follow_22 (by decide) ?_
        refine lv_icmp_ge (tgt := 103) hx hb dX0_follow_24 (by decide) (fun c8 => ?_) (fun c8 => ?_)
        ·
          have q8 : 12 ≤ x14_5.toInt := i_le c8
          have h9 : rg 12 12 x14_5 := t_ley 12 12 (rg_k (by decide) : rg 12 12 12) hhx14_5 (i_le c8) (by decide)
          refine lv_iload hx hb dX0_follow_103 (lv_at hl 3 rfl) ?_
          exact hret x14_4 _ _ _ _ _ _ dX0_follow_105 hT hS ⟨hR3, hF3, hhx14_4⟩
        ·
          have q8 : x14_5.toInt < 12 := i_nle c8
          have h10 : rg 0 11 x14_5 := t_ltx 0 11 hhx14_5 (rg_k (by decide) : rg 12 12 12) (i_nle c8) (by decide)
          refine lv_aload_n hx hb dX0_follow_27 rfl (lv_at hl 0 rfl) ?_
          refine r_getr X hT 65 4 69 fk_0_21 rfl rfl (by decide) dX0_follow_28 ?_
          refine lv_iload hx hb dX0_follow_31 (lv_at hl 4 rfl) ?_
          refine r_iald X hT 69 rfl (by decide) (v_in h10 (by decide)) dX0_follow_33 ?_
          refine lv_iload_n hx hb dX0_follow_34 rfl (lv_at hl 1 rfl) ?_
          refine e_Ni (As := [.int (i3 69 x14_5.toNatClampNeg), .int a_a]) (rest := []) X Y hT hS (m_X8_hasBit (i3 69 x14_5.toNatClampNeg) a_a) sk_X8_hasBit Y.n1 hd_X8_hasBit ⟨rfl, rfl⟩ ⟨Nat.le_of_ble_eq_true rfl, Nat.le_of_ble_eq_true rfl⟩ hl.1 rfl (Nat.le_of_ble_eq_true rfl) dX0_follow_35 ⟨Nat.zero_le _, Nat.zero_le _⟩ (fun r11 i11 g11 H locs hq hT hS => ?_)
          obtain ⟨eh11, hr11⟩ := hq
          rw [(Prod.mk.inj eh11).1, (Prod.mk.inj eh11).2] at hT
          have J86_13 : ∀ (x86_13_4 : Int32) (H : Heap) (locs : List Loc) (ls : Array Slot), rg 0 99 x86_13_4 → TH D h cz i3 g3 H → va_S (hA h) s.heap H locs → lv_has ls 6 [(0, .ref (h 65)), (1, .int a_a), (3, .int a_c), (4, .int x86_13_4), (5, .int x14_5)] → W p l e ({ frames := 2, cells := 0, slots := 0, locals := 64 } : Room) s m args below meth c H locs 0 0 Q (F0 m 86 ls []) := by
            intro x86_13_4 H locs ls hhx86_13_4 hT hS hl
            refine lv_aload_n hx hb dX0_follow_86 rfl (lv_at hl 0 rfl) ?_
            refine r_getr X hT 65 6 71 fk_0_27 rfl rfl (by decide) dX0_follow_87 ?_
            refine lv_iload hx hb dX0_follow_90 (lv_at hl 4 rfl) ?_
            refine lv_iconst (v := 1) hx hb dX0_follow_92 (by decide) ?_
            refine q_iadd hx hb dX0_follow_93 (fun x14 ex14 => ?_)
            obtain ⟨hx14, ax14⟩ := rg_add 1 12 ex14 h10 (rg_k (by decide) : rg 1 1 1) (by decide)
            replace ax14 : x14.toInt = x14_5.toInt + 1 := ax14
            refine lv_iload hx hb dX0_follow_94 (lv_at hl 3 rfl) ?_
            refine r_iast X hT hS 71 rfl (by decide) (v_in hx14 (by decide)) dX0_follow_96 (fun H locs i15 ei15 hT hS => ?_)
            have hR15 := Rg_put hR3 ei15 0 99 rfl hhx86_13_4 (by decide)
            have hF15 := Fr_puti hF3 ei15 (by decide)
            obtain ⟨x16, ex16⟩ : ∃ y : Int32, y = x14_5 + 1 := ⟨_, rfl⟩
            refine lv_iinc (v := x16) (lv' := [(5, .int x16), (0, .ref (h 65)), (1, .int a_a), (3, .int a_c), (4, .int x86_13_4)]) hx hb dX0_follow_97 hl (k := 4) rfl (by rw [ex16]; rfl) (by decide) rfl (fun ls hl => ?_)
            obtain ⟨hx16, ax16⟩ := rg_add 1 12 ex16 h10 (rg_k (by decide) : rg 1 1 1) (by decide)
            replace ax16 : x16.toInt = x14_5.toInt + 1 := ax16
            refine lv_goto (tgt := 14) hx hb dX0_follow_100 (by decide) ?_
            exact ih4_ x86_13_4 x16 i15 g3 _ _ _ hhx86_13_4 (rg_w hx16 (by decide) : rg 0 12 x16) hR15 hF15 hT hS (lv_sub hl [1, 2, 3, 4, 0] rfl) (m_up ax16 hx16 (by decide) hm4_)
          refine lv_if_ne (tgt := 86) hx hb dX0_follow_38 (by decide) (fun c12 => ?_) (fun c12 => ?_)
          ·
            have q12 : ¬ r11.toInt = 0 := i_ne c12
            have h17 : rg 1 1 r11 := t_nelo 1 hr11 (rg_k (by decide) : rg 0 0 0) (i_ne c12) (by decide)
            exact J86_13 x14_4 _ _ _ hhx14_4 hT hS (lv_sub hl [0, 1, 2, 3, 4] rfl)
          ·
            have q12 : r11.toInt = 0 := i_eq c12
            have h18 : rg 0 0 r11 := t_eqx 0 0 hr11 (rg_k (by decide) : rg 0 0 0) (i_eq c12) (by decide)
            refine lv_aload_n hx hb dX0_follow_41 rfl (lv_at hl 0 rfl) ?_
            refine lv_iload_n hx hb dX0_follow_42 rfl (lv_at hl 1 rfl) ?_
            refine lv_iload hx hb dX0_follow_43 (lv_at hl 3 rfl) ?_
            refine lv_iload hx hb dX0_follow_45 (lv_at hl 4 rfl) ?_
            refine e_Vi (As := [.int a_a, .int x14_4, .int x14_5]) (rest := []) X Y hT hS (m_X0_aired_65 hR3 a_a x14_4 x14_5 ha_a hhx14_4 h10) mk_X0_aired gm_777 rfl rfl (by decide) hd_X0_aired ⟨rfl, rfl⟩ ⟨Nat.le_of_ble_eq_true rfl, Nat.le_of_ble_eq_true rfl⟩ hl.1 rfl (Nat.le_of_ble_eq_true rfl) dX0_follow_47 ⟨Nat.zero_le _, Nat.zero_le _⟩ (fun r19 i19 g19 H locs hq hT hS => ?_)
            obtain ⟨eh19, hr19⟩ := hq
            rw [(Prod.mk.inj eh19).1, (Prod.mk.inj eh19).2] at hT
            refine lv_istore (lv' := [(4, .int r19), (0, .ref (h 65)), (1, .int a_a), (3, .int a_c), (5, .int x14_5)]) hx hb dX0_follow_50 hl (by decide) rfl (fun ls hl => ?_)
            refine lv_aload_n hx hb dX0_follow_52 rfl (lv_at hl 1 rfl) ?_
            refine r_getr X hT 65 4 69 fk_0_21 rfl rfl (by decide) dX0_follow_53 ?_
            refine lv_iload hx hb dX0_follow_56 (lv_at hl 4 rfl) ?_
            refine lv_iconst (v := 1) hx hb dX0_follow_58 (by decide) ?_
            refine q_iadd hx hb dX0_follow_59 (fun x20 ex20 => ?_)
            obtain ⟨hx20, ax20⟩ := rg_add 1 12 ex20 h10 (rg_k (by decide) : rg 1 1 1) (by decide)
            replace ax20 : x20.toInt = x14_5.toInt + 1 := ax20
            refine r_iald X hT 69 rfl (by decide) (v_in hx20 (by decide)) dX0_follow_60 ?_
            refine lv_iload_n hx hb dX0_follow_61 rfl (lv_at hl 2 rfl) ?_
            refine e_Ni (As := [.int (i3 69 x20.toNatClampNeg), .int a_a]) (rest := []) X Y hT hS (m_X8_hasBit (i3 69 x20.toNatClampNeg) a_a) sk_X8_hasBit Y.n1 hd_X8_hasBit ⟨rfl, rfl⟩ ⟨Nat.le_of_ble_eq_true rfl, Nat.le_of_ble_eq_true rfl⟩ hl.1 rfl (Nat.le_of_ble_eq_true rfl) dX0_follow_62 ⟨Nat.zero_le _, Nat.zero_le _⟩ (fun r21 i21 g21 H locs hq hT hS => ?_)
            obtain ⟨eh21, hr21⟩ := hq
            rw [(Prod.mk.inj eh21).1, (Prod.mk.inj eh21).2] at hT
            refine lv_if_ne (tgt := 86) hx hb dX0_follow_65 (by decide) (fun c22 => ?_) (fun c22 => ?_)
            ·
              have q22 : ¬ r21.toInt = 0 := i_ne c22
              have h23 : rg 1 1 r21 := t_nelo 1 hr21 (rg_k (by decide) : rg 0 0 0) (i_ne c22) (by decide)
              exact J86_13 r19 _ _ _ hr19 hT hS (lv_sub hl [1, 2, 3, 0, 4] rfl)
            ·
              have q22 : r21.toInt = 0 := i_eq c22
              have h24 : rg 0 0 r21 := t_eqx 0 0 hr21 (rg_k (by decide) : rg 0 0 0) (i_eq c22) (by decide)
              refine lv_aload_n hx hb dX0_follow_68 rfl (lv_at hl 1 rfl) ?_
              refine lv_iload_n hx hb dX0_follow_69 rfl (lv_at hl 2 rfl) ?_
              refine lv_iload hx hb dX0_follow_70 (lv_at hl 0 rfl) ?_
              refine lv_aload_n hx hb dX0_follow_72 rfl (lv_at hl 1 rfl) ?_
              refine r_getr X hT 65 4 69 fk_0_21 rfl rfl (by decide) dX0_follow_73 ?_
              refine lv_iload hx hb dX0_follow_76 (lv_at hl 4 rfl) ?_
              refine lv_iconst (v := 1) hx hb dX0_follow_78 (by decide) ?_
              refine q_iadd hx hb dX0_follow_79 (fun x25 ex25 => ?_)
              obtain ⟨hx25, ax25⟩ := rg_add 1 12 ex25 h10 (rg_k (by decide) : rg 1 1 1) (by decide)
              replace ax25 : x25.toInt = x14_5.toInt + 1 := ax25
              refine r_iald X hT 69 rfl (by decide) (v_in hx25 (by decide)) dX0_follow_80 ?_
              refine e_Vi (As := [.int a_a, .int r19, .int (i3 69 x25.toNatClampNeg)]) (rest := []) X Y hT hS (m_X0_waited_65 hR3 a_a r19 (i3 69 x25.toNatClampNeg) ha_a hr19) mk_X0_waited gm_784 rfl rfl (by decide) hd_X0_waited ⟨rfl, rfl⟩ ⟨Nat.le_of_ble_eq_true rfl, Nat.le_of_ble_eq_true rfl⟩ hl.1 rfl (Nat.le_of_ble_eq_true rfl) dX0_follow_81 ⟨Nat.zero_le _, Nat.zero_le _⟩ (fun r26 i26 g26 H locs hq hT hS => ?_)
              obtain ⟨eh26, hr26⟩ := hq
              rw [(Prod.mk.inj eh26).1, (Prod.mk.inj eh26).2] at hT
              refine lv_istore (lv' := [(4, .int r26), (0, .ref (h 65)), (1, .int a_a), (3, .int a_c), (5, .int x14_5)]) hx hb dX0_follow_84 hl (by decide) rfl (fun ls hl => ?_)
              exact J86_13 r26 _ _ _ hr26 hT hS (lv_sub hl [1, 2, 3, 0, 4] rfl)
  exact L14_2 _ a_b (0) i1 g _ _ _ (rg_w ha_b (by decide) : rg 0 99 a_b) (rg_w (rg_k (by decide) : rg 0 0 0) (by decide) : rg 0 12 0) hR1 hF1 hT hS (lv_sub hl [2, 3, 5, 1, 0] rfl) (Nat.lt_succ_self _)
set_option maxRecDepth 100000 in
set_option maxHeartbeats 4000000 in
theorem m_X0_stiffness_65 {l : Launch} {D : va_G} {h : Nat → Nat} {cz : Nat → ClassId} {z : EZ} {i : Nat → Nat → Int32} {g : Nat → Nat → Int64} (hR : Rg rA i) (a_a : Int32) (a_b : Int32) (ha_a : rg 0 5 a_a) : DtI l yX0_stiffness cX0_stiffness 3 (some .int) ({ frames := 3, cells := 0, slots := 0, locals := 89 } : Room) D h cz z i g [.ref (h 65), .int a_a, .int a_b] (fun r u => Rg rA u.1 ∧ Fr [71] [] i g u ∧ rg 0 99 r) := by
  refine e_I pn_X0_stiffness (Nat.le_of_ble_eq_true rfl) ?_
  intro p e s m args below meth c ls Q X Y hret hT hl hS
  have hx := X.1
  have hb := X.2.1
  have hl : lv_has ls 3 [(0, .ref (h 65)), (1, .int a_a), (2, .int a_b)] := hl
  have hF : Fr [71] [] i g (i, g) := Fr_rf _ _ _ _
  refine lv_aload_n hx hb dX0_stiffness_0 rfl (lv_at hl 0 rfl) ?_
  refine lv_iload_n hx hb dX0_stiffness_1 rfl (lv_at hl 1 rfl) ?_
  refine lv_aload_n hx hb dX0_stiffness_2 rfl (lv_at hl 0 rfl) ?_
  refine r_getr X hT 65 0 15 fk_0_30 rfl rfl (by decide) dX0_stiffness_3 ?_
  refine r_getr X hT 15 2 18 fk_0_99 rfl rfl (by decide) dX0_stiffness_6 ?_
  refine lv_iload_n hx hb dX0_stiffness_9 rfl (lv_at hl 1 rfl) ?_
  refine r_iald X hT 18 rfl (by decide) (v_in ha_a (by decide)) dX0_stiffness_10 ?_
  refine lv_iload_n hx hb dX0_stiffness_11 rfl (lv_at hl 2 rfl) ?_
  refine e_Vi (As := [.int a_a, .int (i 18 a_a.toNatClampNeg), .int a_b]) (rest := []) X Y hT hS (m_X0_follow_65 hR a_a (i 18 a_a.toNatClampNeg) a_b ha_a (Rg_at hR 18 a_a.toNatClampNeg 0 60 (v_lt (v_in ha_a (by decide))) rfl)) mk_X0_follow gm_773 rfl rfl (by decide) hd_X0_follow ⟨rfl, rfl⟩ ⟨Nat.le_of_ble_eq_true rfl, Nat.le_of_ble_eq_true rfl⟩ hl.1 rfl (Nat.le_of_ble_eq_true rfl) dX0_stiffness_12 ⟨Nat.zero_le _, Nat.zero_le _⟩ (fun r1 i1 g1 H locs hq hT hS => ?_)
  obtain ⟨hR1, hf1, hr1⟩ := hq
  have hF1 := Fr_tr hF hf1 (by decide)
  exact hret r1 _ _ _ _ _ _ dX0_stiffness_15 hT hS ⟨hR1, hF1, hr1⟩
set_option maxRecDepth 100000 in
set_option maxHeartbeats 4000000 in
theorem m_X8_stiff {l : Launch} {D : va_G} {h : Nat → Nat} {cz : Nat → ClassId} {z : EZ} {i : Nat → Nat → Int32} {g : Nat → Nat → Int64} (hR : Rg rA i) (a_a : Int32) (a_b : Int32) : DtI l yX8_stiff cX8_stiff 3 (some .int) ({ frames := 5, cells := 0, slots := 0, locals := 111 } : Room) D h cz z i g [.ref (h 0), .int a_a, .int a_b] (fun r u => Rg rA u.1 ∧ Fr [0, 65, 66, 67, 68, 69, 70, 71] [] i g u ∧ rg (-2) 99 r) := by
  refine e_I pn_X8_stiff (Nat.le_of_ble_eq_true rfl) ?_
  intro p e s m args below meth c ls Q X Y hret hT hl hS
  have hx := X.1
  have hb := X.2.1
  have hl : lv_has ls 3 [(0, .ref (h 0)), (1, .int a_a), (2, .int a_b)] := hl
  have hF : Fr [0, 65, 66, 67, 68, 69, 70, 71] [] i g (i, g) := Fr_rf _ _ _ _
  refine lv_aload_n hx hb dX8_stiff_0 rfl (lv_at hl 0 rfl) ?_
  refine lv_iload_n hx hb dX8_stiff_1 rfl (lv_at hl 1 rfl) ?_
  refine lv_iload_n hx hb dX8_stiff_2 rfl (lv_at hl 2 rfl) ?_
  refine e_Vi (As := [.int a_a, .int a_b]) (rest := []) X Y hT hS (m_X8_hasPartAndYear hR a_a a_b) mk_X8_hasPartAndYear gm_727 rfl rfl (by decide) hd_X8_hasPartAndYear ⟨rfl, rfl⟩ ⟨Nat.le_of_ble_eq_true rfl, Nat.le_of_ble_eq_true rfl⟩ hl.1 rfl (Nat.le_of_ble_eq_true rfl) dX8_stiff_3 ⟨Nat.zero_le _, Nat.zero_le _⟩ (fun r1 i1 g1 H locs hq hT hS => ?_)
  rcases hq with hq | hq
  ·
    obtain ⟨eh1, rfl, hf1_0, hf1_1⟩ := hq
    rw [(Prod.mk.inj eh1).1, (Prod.mk.inj eh1).2] at hT
    have h2 : rg 0 5 a_a := ⟨by have := (rg_top a_a).1; have := hf1_0.1; omega, by have := (rg_top a_a).2; have := hf1_0.2; omega⟩
    have h3 : rg 0 12 a_b := ⟨by have := (rg_top a_b).1; have := hf1_1.1; omega, by have := (rg_top a_b).2; have := hf1_1.2; omega⟩
    refine lv_if_eq (tgt := 21) hx hb dX8_stiff_6 (by decide) (fun c4 => (x_eq (rg_k (by decide) : rg 1 1 1) (rg_k (by decide) : rg 0 0 0) (i_eq c4) (by decide)).elim) (fun c4 => ?_)
    refine lv_aload_n hx hb dX8_stiff_9 rfl (lv_at hl 0 rfl) ?_
    refine e_Vr (As := []) (rest := []) X Y hT hS (m_X8_current hR) mk_X8_current gm_736 rfl rfl (by decide) hd_X8_current ⟨rfl, rfl⟩ ⟨Nat.le_of_ble_eq_true rfl, Nat.le_of_ble_eq_true rfl⟩ hl.1 rfl (Nat.le_of_ble_eq_true rfl) dX8_stiff_10 ⟨Nat.zero_le _, Nat.zero_le _⟩ (fun i5 g5 H locs hq hT hS => ?_)
    obtain ⟨hR5, hf5⟩ := hq
    have hF5 := Fr_tr hF hf5 (by decide)
    refine lv_iload_n hx hb dX8_stiff_13 rfl (lv_at hl 1 rfl) ?_
    refine lv_iload_n hx hb dX8_stiff_14 rfl (lv_at hl 2 rfl) ?_
    refine e_Vi (As := [.int a_a, .int a_b]) (rest := []) X Y hT hS (m_X0_stiffness_65 hR5 a_a a_b h2) mk_X0_stiffness gm_769 rfl rfl (by decide) hd_X0_stiffness ⟨rfl, rfl⟩ ⟨Nat.le_of_ble_eq_true rfl, Nat.le_of_ble_eq_true rfl⟩ hl.1 rfl (Nat.le_of_ble_eq_true rfl) dX8_stiff_15 ⟨Nat.zero_le _, Nat.zero_le _⟩ (fun r6 i6 g6 H locs hq hT hS => ?_)
    obtain ⟨hR6, hf6, hr6⟩ := hq
    have hF6 := Fr_tr hF5 hf6 (by decide)
    refine lv_goto (tgt := 23) hx hb dX8_stiff_18 (by decide) ?_
    exact hret r6 _ _ _ _ _ _ dX8_stiff_23 hT hS ⟨hR6, hF6, (rg_w hr6 (by decide) : rg (-2) 99 r6)⟩
  ·
    obtain ⟨eh1, rfl⟩ := hq
    rw [(Prod.mk.inj eh1).1, (Prod.mk.inj eh1).2] at hT
    refine lv_if_eq (tgt := 21) hx hb dX8_stiff_6 (by decide) (fun c7 => ?_) (fun c7 => (x_ne (rg_k (by decide) : rg 0 0 0) (rg_k (by decide) : rg 0 0 0) (i_ne c7) (by decide)).elim)
    refine lv_bipush (v := (-2)) hx hb dX8_stiff_21 (by decide) ?_
    exact hret (-2) _ _ _ _ _ _ dX8_stiff_23 hT hS ⟨hR, hF, (rg_w (rg_k (by decide) : rg (-2) (-2) (-2)) (by decide) : rg (-2) 99 (-2))⟩
set_option maxRecDepth 100000 in
set_option maxHeartbeats 4000000 in
theorem m_X0_openIn_65 {l : Launch} {D : va_G} {h : Nat → Nat} {cz : Nat → ClassId} {z : EZ} {i : Nat → Nat → Int32} {g : Nat → Nat → Int64} (hR : Rg rA i) (a_a : Int32) : DtI l yX0_openIn cX0_openIn 2 (some .int) ({ frames := 0, cells := 0, slots := 0, locals := 0 } : Room) D h cz z i g [.ref (h 65), .int a_a] (fun r u => u = (i, g)) := by
  refine e_I pn_X0_openIn (Nat.le_of_ble_eq_true rfl) ?_
  intro p e s m args below meth c ls Q X Y hret hT hl hS
  have hx := X.1
  have hb := X.2.1
  have hl : lv_has ls 2 [(0, .ref (h 65)), (1, .int a_a)] := hl
  refine lv_iload_n hx hb dX0_openIn_0 rfl (lv_at hl 1 rfl) ?_
  refine lv_if_lt (tgt := 19) hx hb dX0_openIn_1 (by decide) (fun c1 => ?_) (fun c1 => ?_)
  ·
    have q1 : a_a.toInt < 0 := i_lt c1
    have h2 : rg (-2147483648) (-1) a_a := t_ltx (-2147483648) (-1) (rg_top a_a) (rg_k (by decide) : rg 0 0 0) (i_lt c1) (by decide)
    refine lv_iconst (v := 0) hx hb dX0_openIn_19 (by decide) ?_
    exact hret 0 _ _ _ _ _ _ dX0_openIn_20 hT hS rfl
  ·
    have q1 : 0 ≤ a_a.toInt := i_nlt c1
    have h3 : rg 0 2147483647 a_a := t_ley 0 2147483647 (rg_k (by decide) : rg 0 0 0) (rg_top a_a) (i_nlt c1) (by decide)
    refine lv_iload_n hx hb dX0_openIn_4 rfl (lv_at hl 1 rfl) ?_
    refine lv_bipush (v := 12) hx hb dX0_openIn_5 (by decide) ?_
    refine lv_icmp_gt (tgt := 19) hx hb dX0_openIn_7 (by decide) (fun c4 => ?_) (fun c4 => ?_)
    ·
      have q4 : 12 < a_a.toInt := i_lt c4
      have h5 : rg 13 2147483647 a_a := t_lty 13 2147483647 (rg_k (by decide) : rg 12 12 12) h3 (i_lt c4) (by decide)
      refine lv_iconst (v := 0) hx hb dX0_openIn_19 (by decide) ?_
      exact hret 0 _ _ _ _ _ _ dX0_openIn_20 hT hS rfl
    ·
      have q4 : a_a.toInt ≤ 12 := i_nlt c4
      have h6 : rg 0 12 a_a := t_lex 0 12 h3 (rg_k (by decide) : rg 12 12 12) (i_nlt c4) (by decide)
      refine lv_aload_n hx hb dX0_openIn_10 rfl (lv_at hl 0 rfl) ?_
      refine r_getr X hT 65 4 69 fk_0_21 rfl rfl (by decide) dX0_openIn_11 ?_
      refine lv_iload_n hx hb dX0_openIn_14 rfl (lv_at hl 1 rfl) ?_
      refine r_iald X hT 69 rfl (by decide) (v_in h6 (by decide)) dX0_openIn_15 ?_
      refine lv_goto (tgt := 20) hx hb dX0_openIn_16 (by decide) ?_
      exact hret (i 69 a_a.toNatClampNeg) _ _ _ _ _ _ dX0_openIn_20 hT hS rfl
set_option maxRecDepth 100000 in
set_option maxHeartbeats 4000000 in
theorem m_X8_open {l : Launch} {D : va_G} {h : Nat → Nat} {cz : Nat → ClassId} {z : EZ} {i : Nat → Nat → Int32} {g : Nat → Nat → Int64} (hR : Rg rA i) (a_a : Int32) : DtI l yX8_open cX8_open 2 (some .int) ({ frames := 5, cells := 0, slots := 0, locals := 110 } : Room) D h cz z i g [.ref (h 0), .int a_a] (fun r u => Rg rA u.1 ∧ Fr [0, 65, 66, 67, 68, 69, 70] [] i g u) := by
  refine e_I pn_X8_open (Nat.le_of_ble_eq_true rfl) ?_
  intro p e s m args below meth c ls Q X Y hret hT hl hS
  have hx := X.1
  have hb := X.2.1
  have hl : lv_has ls 2 [(0, .ref (h 0)), (1, .int a_a)] := hl
  have hF : Fr [0, 65, 66, 67, 68, 69, 70] [] i g (i, g) := Fr_rf _ _ _ _
  refine lv_aload_n hx hb dX8_open_0 rfl (lv_at hl 0 rfl) ?_
  refine r_getr X hT 0 3 15 fk_8_32 rfl rfl (by decide) dX8_open_1 ?_
  refine lv_iload_n hx hb dX8_open_4 rfl (lv_at hl 1 rfl) ?_
  refine e_Vi (As := [.int a_a]) (rest := []) X Y hT hS (m_X6_hasYear_15 hR a_a) mk_X6_hasYear gm_731 rfl rfl (by decide) hd_X6_hasYear ⟨rfl, rfl⟩ ⟨Nat.le_of_ble_eq_true rfl, Nat.le_of_ble_eq_true rfl⟩ hl.1 rfl (Nat.le_of_ble_eq_true rfl) dX8_open_5 ⟨Nat.zero_le _, Nat.zero_le _⟩ (fun r1 i1 g1 H locs hq hT hS => ?_)
  rcases hq with hq | hq
  ·
    obtain ⟨eh1, rfl, hf1_0⟩ := hq
    rw [(Prod.mk.inj eh1).1, (Prod.mk.inj eh1).2] at hT
    have h2 : rg 0 12 a_a := ⟨by have := (rg_top a_a).1; have := hf1_0.1; omega, by have := (rg_top a_a).2; have := hf1_0.2; omega⟩
    refine lv_if_eq (tgt := 22) hx hb dX8_open_8 (by decide) (fun c3 => (x_eq (rg_k (by decide) : rg 1 1 1) (rg_k (by decide) : rg 0 0 0) (i_eq c3) (by decide)).elim) (fun c3 => ?_)
    refine lv_aload_n hx hb dX8_open_11 rfl (lv_at hl 0 rfl) ?_
    refine e_Vr (As := []) (rest := []) X Y hT hS (m_X8_current hR) mk_X8_current gm_736 rfl rfl (by decide) hd_X8_current ⟨rfl, rfl⟩ ⟨Nat.le_of_ble_eq_true rfl, Nat.le_of_ble_eq_true rfl⟩ hl.1 rfl (Nat.le_of_ble_eq_true rfl) dX8_open_12 ⟨Nat.zero_le _, Nat.zero_le _⟩ (fun i4 g4 H locs hq hT hS => ?_)
    obtain ⟨hR4, hf4⟩ := hq
    have hF4 := Fr_tr hF hf4 (by decide)
    refine lv_iload_n hx hb dX8_open_15 rfl (lv_at hl 1 rfl) ?_
    refine e_Vi (As := [.int a_a]) (rest := []) X Y hT hS (m_X0_openIn_65 hR4 a_a) mk_X0_openIn gm_799 rfl rfl (by decide) hd_X0_openIn ⟨rfl, rfl⟩ ⟨Nat.le_of_ble_eq_true rfl, Nat.le_of_ble_eq_true rfl⟩ hl.1 rfl (Nat.le_of_ble_eq_true rfl) dX8_open_16 ⟨Nat.zero_le _, Nat.zero_le _⟩ (fun r5 i5 g5 H locs hq hT hS => ?_)
    have eh5 := hq
    rw [(Prod.mk.inj eh5).1, (Prod.mk.inj eh5).2] at hT
    refine lv_goto (tgt := 24) hx hb dX8_open_19 (by decide) ?_
    exact hret r5 _ _ _ _ _ _ dX8_open_24 hT hS ⟨hR4, hF4⟩
  ·
    obtain ⟨eh1, rfl⟩ := hq
    rw [(Prod.mk.inj eh1).1, (Prod.mk.inj eh1).2] at hT
    refine lv_if_eq (tgt := 22) hx hb dX8_open_8 (by decide) (fun c6 => ?_) (fun c6 => (x_ne (rg_k (by decide) : rg 0 0 0) (rg_k (by decide) : rg 0 0 0) (i_ne c6) (by decide)).elim)
    refine lv_bipush (v := (-2)) hx hb dX8_open_22 (by decide) ?_
    exact hret (-2) _ _ _ _ _ _ dX8_open_24 hT hS ⟨hR, hF⟩
set_option maxRecDepth 100000 in
set_option maxHeartbeats 4000000 in
theorem m_X0_openingYear_65 {l : Launch} {D : va_G} {h : Nat → Nat} {cz : Nat → ClassId} {z : EZ} {i : Nat → Nat → Int32} {g : Nat → Nat → Int64} (hR : Rg rA i) (a_a : Int32) (ha_a : rg 0 5 a_a) : DtI l yX0_openingYear cX0_openingYear 2 (some .int) ({ frames := 0, cells := 0, slots := 0, locals := 0 } : Room) D h cz z i g [.ref (h 65), .int a_a] (fun r u => u = (i, g)) := by
  refine e_I pn_X0_openingYear (Nat.le_of_ble_eq_true rfl) ?_
  intro p e s m args below meth c ls Q X Y hret hT hl hS
  have hx := X.1
  have hb := X.2.1
  have hl : lv_has ls 2 [(0, .ref (h 65)), (1, .int a_a)] := hl
  refine lv_aload_n hx hb dX0_openingYear_0 rfl (lv_at hl 0 rfl) ?_
  refine r_getr X hT 65 5 70 fk_0_24 rfl rfl (by decide) dX0_openingYear_1 ?_
  refine lv_iload_n hx hb dX0_openingYear_4 rfl (lv_at hl 1 rfl) ?_
  refine r_iald X hT 70 rfl (by decide) (v_in ha_a (by decide)) dX0_openingYear_5 ?_
  exact hret (i 70 a_a.toNatClampNeg) _ _ _ _ _ _ dX0_openingYear_6 hT hS rfl
set_option maxRecDepth 100000 in
set_option maxHeartbeats 4000000 in
theorem m_X8_when {l : Launch} {D : va_G} {h : Nat → Nat} {cz : Nat → ClassId} {z : EZ} {i : Nat → Nat → Int32} {g : Nat → Nat → Int64} (hR : Rg rA i) (a_a : Int32) : DtI l yX8_when cX8_when 2 (some .int) ({ frames := 5, cells := 0, slots := 0, locals := 110 } : Room) D h cz z i g [.ref (h 0), .int a_a] (fun r u => Rg rA u.1 ∧ Fr [0, 65, 66, 67, 68, 69, 70] [] i g u) := by
  refine e_I pn_X8_when (Nat.le_of_ble_eq_true rfl) ?_
  intro p e s m args below meth c ls Q X Y hret hT hl hS
  have hx := X.1
  have hb := X.2.1
  have hl : lv_has ls 2 [(0, .ref (h 0)), (1, .int a_a)] := hl
  have hF : Fr [0, 65, 66, 67, 68, 69, 70] [] i g (i, g) := Fr_rf _ _ _ _
  refine lv_aload_n hx hb dX8_when_0 rfl (lv_at hl 0 rfl) ?_
  refine r_getr X hT 0 3 15 fk_8_32 rfl rfl (by decide) dX8_when_1 ?_
  refine lv_iload_n hx hb dX8_when_4 rfl (lv_at hl 1 rfl) ?_
  refine e_Vi (As := [.int a_a]) (rest := []) X Y hT hS (m_X6_hasPart_15 hR a_a) mk_X6_hasPart gm_669 rfl rfl (by decide) hd_X6_hasPart ⟨rfl, rfl⟩ ⟨Nat.le_of_ble_eq_true rfl, Nat.le_of_ble_eq_true rfl⟩ hl.1 rfl (Nat.le_of_ble_eq_true rfl) dX8_when_5 ⟨Nat.zero_le _, Nat.zero_le _⟩ (fun r1 i1 g1 H locs hq hT hS => ?_)
  rcases hq with hq | hq
  ·
    obtain ⟨eh1, rfl, hf1_0⟩ := hq
    rw [(Prod.mk.inj eh1).1, (Prod.mk.inj eh1).2] at hT
    have h2 : rg 0 5 a_a := ⟨by have := (rg_top a_a).1; have := hf1_0.1; omega, by have := (rg_top a_a).2; have := hf1_0.2; omega⟩
    refine lv_if_eq (tgt := 22) hx hb dX8_when_8 (by decide) (fun c3 => (x_eq (rg_k (by decide) : rg 1 1 1) (rg_k (by decide) : rg 0 0 0) (i_eq c3) (by decide)).elim) (fun c3 => ?_)
    refine lv_aload_n hx hb dX8_when_11 rfl (lv_at hl 0 rfl) ?_
    refine e_Vr (As := []) (rest := []) X Y hT hS (m_X8_current hR) mk_X8_current gm_736 rfl rfl (by decide) hd_X8_current ⟨rfl, rfl⟩ ⟨Nat.le_of_ble_eq_true rfl, Nat.le_of_ble_eq_true rfl⟩ hl.1 rfl (Nat.le_of_ble_eq_true rfl) dX8_when_12 ⟨Nat.zero_le _, Nat.zero_le _⟩ (fun i4 g4 H locs hq hT hS => ?_)
    obtain ⟨hR4, hf4⟩ := hq
    have hF4 := Fr_tr hF hf4 (by decide)
    refine lv_iload_n hx hb dX8_when_15 rfl (lv_at hl 1 rfl) ?_
    refine e_Vi (As := [.int a_a]) (rest := []) X Y hT hS (m_X0_openingYear_65 hR4 a_a h2) mk_X0_openingYear gm_807 rfl rfl (by decide) hd_X0_openingYear ⟨rfl, rfl⟩ ⟨Nat.le_of_ble_eq_true rfl, Nat.le_of_ble_eq_true rfl⟩ hl.1 rfl (Nat.le_of_ble_eq_true rfl) dX8_when_16 ⟨Nat.zero_le _, Nat.zero_le _⟩ (fun r5 i5 g5 H locs hq hT hS => ?_)
    have eh5 := hq
    rw [(Prod.mk.inj eh5).1, (Prod.mk.inj eh5).2] at hT
    refine lv_goto (tgt := 24) hx hb dX8_when_19 (by decide) ?_
    exact hret r5 _ _ _ _ _ _ dX8_when_24 hT hS ⟨hR4, hF4⟩
  ·
    obtain ⟨eh1, rfl⟩ := hq
    rw [(Prod.mk.inj eh1).1, (Prod.mk.inj eh1).2] at hT
    refine lv_if_eq (tgt := 22) hx hb dX8_when_8 (by decide) (fun c6 => ?_) (fun c6 => (x_ne (rg_k (by decide) : rg 0 0 0) (rg_k (by decide) : rg 0 0 0) (i_ne c6) (by decide)).elim)
    refine lv_bipush (v := (-2)) hx hb dX8_when_22 (by decide) ?_
    exact hret (-2) _ _ _ _ _ _ dX8_when_24 hT hS ⟨hR, hF⟩
set_option maxRecDepth 100000 in
set_option maxHeartbeats 4000000 in
theorem m_X8_how {l : Launch} {D : va_G} {h : Nat → Nat} {cz : Nat → ClassId} {z : EZ} {i : Nat → Nat → Int32} {g : Nat → Nat → Int64} (hR : Rg rA i) (a_a : Int32) : DtI l yX8_how cX8_how 3 (some .int) ({ frames := 5, cells := 0, slots := 0, locals := 110 } : Room) D h cz z i g [.ref (h 0), .int a_a] (fun r u => Rg rA u.1 ∧ Fr [0, 65, 66, 67, 68, 69, 70] [] i g u ∧ rg (-2) 2 r) := by
  refine e_I pn_X8_how (Nat.le_of_ble_eq_true rfl) ?_
  intro p e s m args below meth c ls Q X Y hret hT hl hS
  have hx := X.1
  have hb := X.2.1
  have hl : lv_has ls 3 [(0, .ref (h 0)), (1, .int a_a)] := hl
  have hF : Fr [0, 65, 66, 67, 68, 69, 70] [] i g (i, g) := Fr_rf _ _ _ _
  refine lv_aload_n hx hb dX8_how_0 rfl (lv_at hl 0 rfl) ?_
  refine r_getr X hT 0 3 15 fk_8_32 rfl rfl (by decide) dX8_how_1 ?_
  refine lv_iload_n hx hb dX8_how_4 rfl (lv_at hl 1 rfl) ?_
  refine e_Vi (As := [.int a_a]) (rest := []) X Y hT hS (m_X6_hasPart_15 hR a_a) mk_X6_hasPart gm_669 rfl rfl (by decide) hd_X6_hasPart ⟨rfl, rfl⟩ ⟨Nat.le_of_ble_eq_true rfl, Nat.le_of_ble_eq_true rfl⟩ hl.1 rfl (Nat.le_of_ble_eq_true rfl) dX8_how_5 ⟨Nat.zero_le _, Nat.zero_le _⟩ (fun r1 i1 g1 H locs hq hT hS => ?_)
  rcases hq with hq | hq
  ·
    obtain ⟨eh1, rfl, hf1_0⟩ := hq
    rw [(Prod.mk.inj eh1).1, (Prod.mk.inj eh1).2] at hT
    have h2 : rg 0 5 a_a := ⟨by have := (rg_top a_a).1; have := hf1_0.1; omega, by have := (rg_top a_a).2; have := hf1_0.2; omega⟩
    refine lv_if_ne (tgt := 14) hx hb dX8_how_8 (by decide) (fun c3 => ?_) (fun c3 => (x_eq (rg_k (by decide) : rg 1 1 1) (rg_k (by decide) : rg 0 0 0) (i_eq c3) (by decide)).elim)
    refine lv_aload_n hx hb dX8_how_14 rfl (lv_at hl 0 rfl) ?_
    refine e_Vr (As := []) (rest := []) X Y hT hS (m_X8_current hR) mk_X8_current gm_736 rfl rfl (by decide) hd_X8_current ⟨rfl, rfl⟩ ⟨Nat.le_of_ble_eq_true rfl, Nat.le_of_ble_eq_true rfl⟩ hl.1 rfl (Nat.le_of_ble_eq_true rfl) dX8_how_15 ⟨Nat.zero_le _, Nat.zero_le _⟩ (fun i4 g4 H locs hq hT hS => ?_)
    obtain ⟨hR4, hf4⟩ := hq
    have hF4 := Fr_tr hF hf4 (by decide)
    refine lv_astore_n (lv' := [(2, .ref (h 65)), (0, .ref (h 0)), (1, .int a_a)]) hx hb dX8_how_18 rfl hl (by decide) rfl (fun ls hl => ?_)
    refine lv_aload_n hx hb dX8_how_19 rfl (lv_at hl 0 rfl) ?_
    refine lv_iload_n hx hb dX8_how_20 rfl (lv_at hl 2 rfl) ?_
    refine e_Vi (As := [.int a_a]) (rest := []) X Y hT hS (m_X0_openingYear_65 hR4 a_a h2) mk_X0_openingYear gm_807 rfl rfl (by decide) hd_X0_openingYear ⟨rfl, rfl⟩ ⟨Nat.le_of_ble_eq_true rfl, Nat.le_of_ble_eq_true rfl⟩ hl.1 rfl (Nat.le_of_ble_eq_true rfl) dX8_how_21 ⟨Nat.zero_le _, Nat.zero_le _⟩ (fun r5 i5 g5 H locs hq hT hS => ?_)
    have eh5 := hq
    rw [(Prod.mk.inj eh5).1, (Prod.mk.inj eh5).2] at hT
    refine lv_iconst (v := (-1)) hx hb dX8_how_24 (by decide) ?_
    refine lv_icmp_ne (tgt := 30) hx hb dX8_how_25 (by decide) (fun c6 => ?_) (fun c6 => ?_)
    ·
      have q6 : ¬ r5.toInt = (-1) := i_ne c6
      refine lv_aload_n hx hb dX8_how_30 rfl (lv_at hl 0 rfl) ?_
      refine r_geti X hT 65 9 fk_8_205 rfl rfl (by decide) dX8_how_31 ?_
      refine lv_iload_n hx hb dX8_how_34 rfl (lv_at hl 2 rfl) ?_
      refine e_Si (As := [.int (i4 65 9), .int a_a]) (rest := []) X Y hT hS (m_X8_hasBit (i4 65 9) a_a) sk_X8_hasBit gm_685 hd_X8_hasBit ⟨rfl, rfl⟩ ⟨Nat.le_of_ble_eq_true rfl, Nat.le_of_ble_eq_true rfl⟩ hl.1 rfl (Nat.le_of_ble_eq_true rfl) dX8_how_35 ⟨Nat.zero_le _, Nat.zero_le _⟩ (fun r7 i7 g7 H locs hq hT hS => ?_)
      obtain ⟨eh7, hr7⟩ := hq
      rw [(Prod.mk.inj eh7).1, (Prod.mk.inj eh7).2] at hT
      refine lv_if_eq (tgt := 45) hx hb dX8_how_38 (by decide) (fun c8 => ?_) (fun c8 => ?_)
      ·
        have q8 : r7.toInt = 0 := i_eq c8
        have h9 : rg 0 0 r7 := t_eqx 0 0 hr7 (rg_k (by decide) : rg 0 0 0) (i_eq c8) (by decide)
        refine lv_iconst (v := 1) hx hb dX8_how_45 (by decide) ?_
        exact hret 1 _ _ _ _ _ _ dX8_how_46 hT hS ⟨hR4, hF4, (rg_w (rg_k (by decide) : rg 1 1 1) (by decide) : rg (-2) 2 1)⟩
      ·
        have q8 : ¬ r7.toInt = 0 := i_ne c8
        have h10 : rg 1 1 r7 := t_nelo 1 hr7 (rg_k (by decide) : rg 0 0 0) (i_ne c8) (by decide)
        refine lv_iconst (v := 2) hx hb dX8_how_41 (by decide) ?_
        refine lv_goto (tgt := 46) hx hb dX8_how_42 (by decide) ?_
        exact hret 2 _ _ _ _ _ _ dX8_how_46 hT hS ⟨hR4, hF4, (rg_w (rg_k (by decide) : rg 2 2 2) (by decide) : rg (-2) 2 2)⟩
    ·
      have q6 : r5.toInt = (-1) := i_eq c6
      have h11 : rg (-1) (-1) r5 := t_eqx (-1) (-1) (rg_top r5) (rg_k (by decide) : rg (-1) (-1) (-1)) (i_eq c6) (by decide)
      refine lv_iconst (v := 0) hx hb dX8_how_28 (by decide) ?_
      exact hret 0 _ _ _ _ _ _ dX8_how_29 hT hS ⟨hR4, hF4, (rg_w (rg_k (by decide) : rg 0 0 0) (by decide) : rg (-2) 2 0)⟩
  ·
    obtain ⟨eh1, rfl⟩ := hq
    rw [(Prod.mk.inj eh1).1, (Prod.mk.inj eh1).2] at hT
    refine lv_if_ne (tgt := 14) hx hb dX8_how_8 (by decide) (fun c12 => (x_ne (rg_k (by decide) : rg 0 0 0) (rg_k (by decide) : rg 0 0 0) (i_ne c12) (by decide)).elim) (fun c12 => ?_)
    refine lv_bipush (v := (-2)) hx hb dX8_how_11 (by decide) ?_
    exact hret (-2) _ _ _ _ _ _ dX8_how_13 hT hS ⟨hR, hF, (rg_w (rg_k (by decide) : rg (-2) (-2) (-2)) (by decide) : rg (-2) 2 (-2))⟩
set_option maxRecDepth 100000 in
set_option maxHeartbeats 4000000 in
theorem m_X0_readFor_65 {l : Launch} {D : va_G} {h : Nat → Nat} {cz : Nat → ClassId} {z : EZ} {i : Nat → Nat → Int32} {g : Nat → Nat → Int64} (hR : Rg rA i) (a_a : Int32) (ha_a : rg 0 5 a_a) : DtI l yX0_readFor cX0_readFor 3 (some .int) ({ frames := 3, cells := 0, slots := 0, locals := 89 } : Room) D h cz z i g [.ref (h 65), .int a_a] (fun r u => Rg rA u.1 ∧ Fr [71] [] i g u ∧ rg (-1) 60 r) := by
  refine e_I pn_X0_readFor (Nat.le_of_ble_eq_true rfl) ?_
  intro p e s m args below meth c ls Q X Y hret hT hl hS
  have hx := X.1
  have hb := X.2.1
  have hl : lv_has ls 3 [(0, .ref (h 65)), (1, .int a_a)] := hl
  have hF : Fr [71] [] i g (i, g) := Fr_rf _ _ _ _
  refine lv_aload_n hx hb dX0_readFor_0 rfl (lv_at hl 0 rfl) ?_
  refine r_getr X hT 65 5 70 fk_0_24 rfl rfl (by decide) dX0_readFor_1 ?_
  refine lv_iload_n hx hb dX0_readFor_4 rfl (lv_at hl 1 rfl) ?_
  refine r_iald X hT 70 rfl (by decide) (v_in ha_a (by decide)) dX0_readFor_5 ?_
  refine lv_istore_n (lv' := [(2, .int (i 70 a_a.toNatClampNeg)), (0, .ref (h 65)), (1, .int a_a)]) hx hb dX0_readFor_6 rfl hl (by decide) rfl (fun ls hl => ?_)
  refine lv_iload_n hx hb dX0_readFor_7 rfl (lv_at hl 0 rfl) ?_
  refine lv_iconst (v := (-1)) hx hb dX0_readFor_8 (by decide) ?_
  refine lv_icmp_ne (tgt := 14) hx hb dX0_readFor_9 (by decide) (fun c1 => ?_) (fun c1 => ?_)
  ·
    have q1 : ¬ (i 70 a_a.toNatClampNeg).toInt = (-1) := i_ne c1
    refine lv_iconst (v := 0) hx hb dX0_readFor_14 (by decide) ?_
    refine lv_aload_n hx hb dX0_readFor_15 rfl (lv_at hl 1 rfl) ?_
    refine r_getr X hT 65 0 15 fk_0_30 rfl rfl (by decide) dX0_readFor_16 ?_
    refine r_getr X hT 15 0 16 fk_0_128 rfl rfl (by decide) dX0_readFor_19 ?_
    refine lv_iload_n hx hb dX0_readFor_22 rfl (lv_at hl 2 rfl) ?_
    refine r_iald X hT 16 rfl (by decide) (v_in ha_a (by decide)) dX0_readFor_23 ?_
    refine lv_aload_n hx hb dX0_readFor_24 rfl (lv_at hl 1 rfl) ?_
    refine lv_iload_n hx hb dX0_readFor_25 rfl (lv_at hl 2 rfl) ?_
    refine lv_aload_n hx hb dX0_readFor_26 rfl (lv_at hl 1 rfl) ?_
    refine r_getr X hT 65 0 15 fk_0_30 rfl rfl (by decide) dX0_readFor_27 ?_
    refine r_getr X hT 15 2 18 fk_0_99 rfl rfl (by decide) dX0_readFor_30 ?_
    refine lv_iload_n hx hb dX0_readFor_33 rfl (lv_at hl 2 rfl) ?_
    refine r_iald X hT 18 rfl (by decide) (v_in ha_a (by decide)) dX0_readFor_34 ?_
    refine lv_iload_n hx hb dX0_readFor_35 rfl (lv_at hl 0 rfl) ?_
    refine lv_iconst (v := 1) hx hb dX0_readFor_36 (by decide) ?_
    refine q_iadd hx hb dX0_readFor_37 (fun x2 ex2 => ?_)
    refine e_Vi (As := [.int a_a, .int (i 18 a_a.toNatClampNeg), .int x2]) (rest := [.int (i 16 a_a.toNatClampNeg), .int 0]) X Y hT hS (m_X0_follow_65 hR a_a (i 18 a_a.toNatClampNeg) x2 ha_a (Rg_at hR 18 a_a.toNatClampNeg 0 60 (v_lt (v_in ha_a (by decide))) rfl)) mk_X0_follow gm_773 rfl rfl (by decide) hd_X0_follow ⟨rfl, rfl⟩ ⟨Nat.le_of_ble_eq_true rfl, Nat.le_of_ble_eq_true rfl⟩ hl.1 rfl (Nat.le_of_ble_eq_true rfl) dX0_readFor_38 ⟨Nat.zero_le _, Nat.zero_le _⟩ (fun r3 i3 g3 H locs hq hT hS => ?_)
    obtain ⟨hR3, hf3, hr3⟩ := hq
    have hF3 := Fr_tr hF hf3 (by decide)
    refine q_isub hx hb dX0_readFor_41 (fun x4 ex4 => ?_)
    obtain ⟨hx4, ax4⟩ := rg_sub (-99) 60 ex4 (Rg_at hR 16 a_a.toNatClampNeg 0 60 (v_lt (v_in ha_a (by decide))) rfl) hr3 (by decide)
    replace ax4 : x4.toInt = (i 16 a_a.toNatClampNeg).toInt - r3.toInt := ax4
    refine e_mmax X hl.1 gm_781 gm_782 gm_118 mw_e_mmax (Nat.le_of_ble_eq_true rfl) (Nat.le_of_ble_eq_true rfl) ⟨Nat.zero_le _, Nat.zero_le _⟩ dX0_readFor_42 (fun x5 ex5 => ?_)
    have h6 : rg 0 60 x5 := rg_mx ex5 (rg_k (by decide) : rg 0 0 0) hx4 (by decide)
    exact hret x5 _ _ _ _ _ _ dX0_readFor_45 hT hS ⟨hR3, hF3, (rg_w h6 (by decide) : rg (-1) 60 x5)⟩
  ·
    have q1 : (i 70 a_a.toNatClampNeg).toInt = (-1) := i_eq c1
    have h7 : rg (-1) (-1) (i 70 a_a.toNatClampNeg) := t_eqx (-1) (-1) (rg_top (i 70 a_a.toNatClampNeg)) (rg_k (by decide) : rg (-1) (-1) (-1)) (i_eq c1) (by decide)
    refine lv_iconst (v := (-1)) hx hb dX0_readFor_12 (by decide) ?_
    exact hret (-1) _ _ _ _ _ _ dX0_readFor_13 hT hS ⟨hR, hF, (rg_w (rg_k (by decide) : rg (-1) (-1) (-1)) (by decide) : rg (-1) 60 (-1))⟩
set_option maxRecDepth 100000 in
set_option maxHeartbeats 4000000 in
theorem m_X8_read {l : Launch} {D : va_G} {h : Nat → Nat} {cz : Nat → ClassId} {z : EZ} {i : Nat → Nat → Int32} {g : Nat → Nat → Int64} (hR : Rg rA i) (a_a : Int32) : DtI l yX8_read cX8_read 2 (some .int) ({ frames := 5, cells := 0, slots := 0, locals := 111 } : Room) D h cz z i g [.ref (h 0), .int a_a] (fun r u => Rg rA u.1 ∧ Fr [0, 65, 66, 67, 68, 69, 70, 71] [] i g u ∧ rg (-2) 60 r) := by
  refine e_I pn_X8_read (Nat.le_of_ble_eq_true rfl) ?_
  intro p e s m args below meth c ls Q X Y hret hT hl hS
  have hx := X.1
  have hb := X.2.1
  have hl : lv_has ls 2 [(0, .ref (h 0)), (1, .int a_a)] := hl
  have hF : Fr [0, 65, 66, 67, 68, 69, 70, 71] [] i g (i, g) := Fr_rf _ _ _ _
  refine lv_aload_n hx hb dX8_read_0 rfl (lv_at hl 0 rfl) ?_
  refine r_getr X hT 0 3 15 fk_8_32 rfl rfl (by decide) dX8_read_1 ?_
  refine lv_iload_n hx hb dX8_read_4 rfl (lv_at hl 1 rfl) ?_
  refine e_Vi (As := [.int a_a]) (rest := []) X Y hT hS (m_X6_hasPart_15 hR a_a) mk_X6_hasPart gm_669 rfl rfl (by decide) hd_X6_hasPart ⟨rfl, rfl⟩ ⟨Nat.le_of_ble_eq_true rfl, Nat.le_of_ble_eq_true rfl⟩ hl.1 rfl (Nat.le_of_ble_eq_true rfl) dX8_read_5 ⟨Nat.zero_le _, Nat.zero_le _⟩ (fun r1 i1 g1 H locs hq hT hS => ?_)
  rcases hq with hq | hq
  ·
    obtain ⟨eh1, rfl, hf1_0⟩ := hq
    rw [(Prod.mk.inj eh1).1, (Prod.mk.inj eh1).2] at hT
    have h2 : rg 0 5 a_a := ⟨by have := (rg_top a_a).1; have := hf1_0.1; omega, by have := (rg_top a_a).2; have := hf1_0.2; omega⟩
    refine lv_if_eq (tgt := 22) hx hb dX8_read_8 (by decide) (fun c3 => (x_eq (rg_k (by decide) : rg 1 1 1) (rg_k (by decide) : rg 0 0 0) (i_eq c3) (by decide)).elim) (fun c3 => ?_)
    refine lv_aload_n hx hb dX8_read_11 rfl (lv_at hl 0 rfl) ?_
    refine e_Vr (As := []) (rest := []) X Y hT hS (m_X8_current hR) mk_X8_current gm_736 rfl rfl (by decide) hd_X8_current ⟨rfl, rfl⟩ ⟨Nat.le_of_ble_eq_true rfl, Nat.le_of_ble_eq_true rfl⟩ hl.1 rfl (Nat.le_of_ble_eq_true rfl) dX8_read_12 ⟨Nat.zero_le _, Nat.zero_le _⟩ (fun i4 g4 H locs hq hT hS => ?_)
    obtain ⟨hR4, hf4⟩ := hq
    have hF4 := Fr_tr hF hf4 (by decide)
    refine lv_iload_n hx hb dX8_read_15 rfl (lv_at hl 1 rfl) ?_
    refine e_Vi (As := [.int a_a]) (rest := []) X Y hT hS (m_X0_readFor_65 hR4 a_a h2) mk_X0_readFor gm_819 rfl rfl (by decide) hd_X0_readFor ⟨rfl, rfl⟩ ⟨Nat.le_of_ble_eq_true rfl, Nat.le_of_ble_eq_true rfl⟩ hl.1 rfl (Nat.le_of_ble_eq_true rfl) dX8_read_16 ⟨Nat.zero_le _, Nat.zero_le _⟩ (fun r5 i5 g5 H locs hq hT hS => ?_)
    obtain ⟨hR5, hf5, hr5⟩ := hq
    have hF5 := Fr_tr hF4 hf5 (by decide)
    refine lv_goto (tgt := 24) hx hb dX8_read_19 (by decide) ?_
    exact hret r5 _ _ _ _ _ _ dX8_read_24 hT hS ⟨hR5, hF5, (rg_w hr5 (by decide) : rg (-2) 60 r5)⟩
  ·
    obtain ⟨eh1, rfl⟩ := hq
    rw [(Prod.mk.inj eh1).1, (Prod.mk.inj eh1).2] at hT
    refine lv_if_eq (tgt := 22) hx hb dX8_read_8 (by decide) (fun c6 => ?_) (fun c6 => (x_ne (rg_k (by decide) : rg 0 0 0) (rg_k (by decide) : rg 0 0 0) (i_ne c6) (by decide)).elim)
    refine lv_bipush (v := (-2)) hx hb dX8_read_22 (by decide) ?_
    exact hret (-2) _ _ _ _ _ _ dX8_read_24 hT hS ⟨hR, hF, (rg_w (rg_k (by decide) : rg (-2) (-2) (-2)) (by decide) : rg (-2) 60 (-2))⟩
set_option maxRecDepth 100000 in
set_option maxHeartbeats 4000000 in
theorem m_X6_hasWorkingYear_15 {l : Launch} {D : va_G} {h : Nat → Nat} {cz : Nat → ClassId} {z : EZ} {i : Nat → Nat → Int32} {g : Nat → Nat → Int64} (hR : Rg rA i) (a_a : Int32) : DtI l yX6_hasWorkingYear cX6_hasWorkingYear 2 (some .boolean) ({ frames := 0, cells := 0, slots := 0, locals := 0 } : Room) D h cz z i g [.ref (h 15), .int a_a] (fun r u => (u = (i, g) ∧ r = 1 ∧ rg 0 11 a_a) ∨ (u = (i, g) ∧ r = 0)) := by
  refine e_Z (fun v u hq => (hq.elim (fun hq => (Or.inr hq.2.1)) (fun hq => (Or.inl hq.2)))) pn_X6_hasWorkingYear (Nat.le_of_ble_eq_true rfl) ?_
  intro p e s m args below meth c ls Q X Y hret hT hl hS
  have hx := X.1
  have hb := X.2.1
  have hl : lv_has ls 2 [(0, .ref (h 15)), (1, .int a_a)] := hl
  refine lv_iload_n hx hb dX6_hasWorkingYear_0 rfl (lv_at hl 1 rfl) ?_
  refine lv_if_lt (tgt := 16) hx hb dX6_hasWorkingYear_1 (by decide) (fun c1 => ?_) (fun c1 => ?_)
  ·
    have q1 : a_a.toInt < 0 := i_lt c1
    have h2 : rg (-2147483648) (-1) a_a := t_ltx (-2147483648) (-1) (rg_top a_a) (rg_k (by decide) : rg 0 0 0) (i_lt c1) (by decide)
    refine lv_iconst (v := 0) hx hb dX6_hasWorkingYear_16 (by decide) ?_
    exact hret 0 _ _ _ _ _ _ dX6_hasWorkingYear_17 hT hS (Or.inr ⟨rfl, rfl⟩)
  ·
    have q1 : 0 ≤ a_a.toInt := i_nlt c1
    have h3 : rg 0 2147483647 a_a := t_ley 0 2147483647 (rg_k (by decide) : rg 0 0 0) (rg_top a_a) (i_nlt c1) (by decide)
    refine lv_iload_n hx hb dX6_hasWorkingYear_4 rfl (lv_at hl 1 rfl) ?_
    refine lv_aload_n hx hb dX6_hasWorkingYear_5 rfl (lv_at hl 0 rfl) ?_
    refine r_geti X hT 15 10 fk_6_42 rfl rfl (by decide) dX6_hasWorkingYear_6 ?_
    refine lv_icmp_ge (tgt := 16) hx hb dX6_hasWorkingYear_9 (by decide) (fun c4 => ?_) (fun c4 => ?_)
    ·
      have q4 : (i 15 10).toInt ≤ a_a.toInt := i_le c4
      refine lv_iconst (v := 0) hx hb dX6_hasWorkingYear_16 (by decide) ?_
      exact hret 0 _ _ _ _ _ _ dX6_hasWorkingYear_17 hT hS (Or.inr ⟨rfl, rfl⟩)
    ·
      have q4 : a_a.toInt < (i 15 10).toInt := i_nle c4
      have h5 : rg 0 11 a_a := t_ltx 0 11 h3 (Rg_at hR 15 10 (-1) 12 (by decide) rfl) (i_nle c4) (by decide)
      have h6 : rg 1 12 (i 15 10) := t_lty 1 12 h3 (Rg_at hR 15 10 (-1) 12 (by decide) rfl) (i_nle c4) (by decide)
      refine lv_iconst (v := 1) hx hb dX6_hasWorkingYear_12 (by decide) ?_
      refine lv_goto (tgt := 17) hx hb dX6_hasWorkingYear_13 (by decide) ?_
      exact hret 1 _ _ _ _ _ _ dX6_hasWorkingYear_17 hT hS (Or.inl ⟨rfl, rfl, h5⟩)
set_option maxRecDepth 100000 in
set_option maxHeartbeats 4000000 in
theorem m_X0_readIn_65 {l : Launch} {D : va_G} {h : Nat → Nat} {cz : Nat → ClassId} {z : EZ} {i : Nat → Nat → Int32} {g : Nat → Nat → Int64} (hR : Rg rA i) (a_a : Int32) : DtI l yX0_readIn cX0_readIn 4 (some .int) ({ frames := 4, cells := 0, slots := 0, locals := 111 } : Room) D h cz z i g [.ref (h 65), .int a_a] (fun r u => Rg rA u.1 ∧ Fr [71] [] i g u) := by
  refine e_I pn_X0_readIn (Nat.le_of_ble_eq_true rfl) ?_
  intro p e s m args below meth c ls Q X Y hret hT hl hS
  have hx := X.1
  have hb := X.2.1
  have hl : lv_has ls 4 [(0, .ref (h 65)), (1, .int a_a)] := hl
  have hF : Fr [71] [] i g (i, g) := Fr_rf _ _ _ _
  refine lv_iconst (v := 0) hx hb dX0_readIn_0 (by decide) ?_
  refine lv_istore_n (lv' := [(2, .int 0), (0, .ref (h 65)), (1, .int a_a)]) hx hb dX0_readIn_1 rfl hl (by decide) rfl (fun ls hl => ?_)
  refine lv_iconst (v := 0) hx hb dX0_readIn_2 (by decide) ?_
  refine lv_istore_n (lv' := [(3, .int 0), (2, .int 0), (0, .ref (h 65)), (1, .int a_a)]) hx hb dX0_readIn_3 rfl hl (by decide) rfl (fun ls hl => ?_)
  have L4_1 : ∀ (n3_ : Nat) (x4_2 : Int32) (x4_3 : Int32) (i2 : Nat → Nat → Int32) (g2 : Nat → Nat → Int64) (H : Heap) (locs : List Loc) (ls : Array Slot), rg 0 6 x4_3 → Rg rA i2 → Fr [71] [] i g (i2, g2) → TH D h cz i2 g2 H → va_S (hA h) s.heap H locs → lv_has ls 4 [(0, .ref (h 65)), (1, .int a_a), (2, .int x4_2), (3, .int x4_3)] → (6 - x4_3.toInt).toNat < n3_ → W p l e ({ frames := 4, cells := 0, slots := 0, locals := 111 } : Room) s m args below meth c H locs 0 0 Q (F0 m 4 ls []) := by
    intro n3_
    induction n3_ with
    | zero => intro x4_2 x4_3 i2 g2 H locs ls hhx4_3 hR2 hF2 hT hS hl hm3_; exact absurd hm3_ (Nat.not_lt_zero _)
    | succ n3_ ih3_ =>
      intro x4_2 x4_3 i2 g2 H locs ls hhx4_3 hR2 hF2 hT hS hl hm3_
      refine lv_iload_n hx hb dX0_readIn_4 rfl (lv_at hl 3 rfl) ?_
      refine lv_aload_n hx hb dX0_readIn_5 rfl (lv_at hl 0 rfl) ?_
      refine r_getr X hT 65 0 15 fk_0_30 rfl rfl (by decide) dX0_readIn_6 ?_
      refine r_geti X hT 15 13 fk_0_44 rfl rfl (by decide) dX0_readIn_9 ?_
      refine lv_icmp_ge (tgt := 43) hx hb dX0_readIn_12 (by decide) (fun c4 => ?_) (fun c4 => ?_)
      ·
        have q4 : (i2 15 13).toInt ≤ x4_3.toInt := i_le c4
        refine lv_iload_n hx hb dX0_readIn_43 rfl (lv_at hl 2 rfl) ?_
        exact hret x4_2 _ _ _ _ _ _ dX0_readIn_44 hT hS ⟨hR2, hF2⟩
      ·
        have q4 : x4_3.toInt < (i2 15 13).toInt := i_nle c4
        have h5 : rg 0 5 x4_3 := t_ltx 0 5 hhx4_3 (Rg_at hR2 15 13 0 6 (by decide) rfl) (i_nle c4) (by decide)
        have h6 : rg 1 6 (i2 15 13) := t_lty 1 6 hhx4_3 (Rg_at hR2 15 13 0 6 (by decide) rfl) (i_nle c4) (by decide)
        refine lv_iload_n hx hb dX0_readIn_15 rfl (lv_at hl 2 rfl) ?_
        refine lv_aload_n hx hb dX0_readIn_16 rfl (lv_at hl 0 rfl) ?_
        refine r_getr X hT 65 5 70 fk_0_24 rfl rfl (by decide) dX0_readIn_17 ?_
        refine lv_iload_n hx hb dX0_readIn_20 rfl (lv_at hl 3 rfl) ?_
        refine r_iald X hT 70 rfl (by decide) (v_in h5 (by decide)) dX0_readIn_21 ?_
        refine lv_iload_n hx hb dX0_readIn_22 rfl (lv_at hl 1 rfl) ?_
        refine lv_icmp_ne (tgt := 34) hx hb dX0_readIn_23 (by decide) (fun c7 => ?_) (fun c7 => ?_)
        ·
          have q7 : ¬ (i2 70 x4_3.toNatClampNeg).toInt = a_a.toInt := i_ne c7
          refine lv_iconst (v := 0) hx hb dX0_readIn_34 (by decide) ?_
          refine q_iadd hx hb dX0_readIn_35 (fun x8 ex8 => ?_)
          obtain ⟨hx8, ax8⟩ := rg_add (-2147483648) 2147483647 ex8 (rg_top x4_2) (rg_k (by decide) : rg 0 0 0) (by decide)
          replace ax8 : x8.toInt = x4_2.toInt + 0 := ax8
          refine lv_istore_n (lv' := [(2, .int x8), (0, .ref (h 65)), (1, .int a_a), (3, .int x4_3)]) hx hb dX0_readIn_36 rfl hl (by decide) rfl (fun ls hl => ?_)
          obtain ⟨x9, ex9⟩ : ∃ y : Int32, y = x4_3 + 1 := ⟨_, rfl⟩
          refine lv_iinc (v := x9) (lv' := [(3, .int x9), (2, .int x8), (0, .ref (h 65)), (1, .int a_a)]) hx hb dX0_readIn_37 hl (k := 3) rfl (by rw [ex9]; rfl) (by decide) rfl (fun ls hl => ?_)
          obtain ⟨hx9, ax9⟩ := rg_add 1 6 ex9 h5 (rg_k (by decide) : rg 1 1 1) (by decide)
          replace ax9 : x9.toInt = x4_3.toInt + 1 := ax9
          refine lv_goto (tgt := 4) hx hb dX0_readIn_40 (by decide) ?_
          exact ih3_ x8 x9 i2 g2 _ _ _ (rg_w hx9 (by decide) : rg 0 6 x9) hR2 hF2 hT hS (lv_sub hl [2, 3, 1, 0] rfl) (m_up ax9 hx9 (by decide) hm3_)
        ·
          have q7 : (i2 70 x4_3.toNatClampNeg).toInt = a_a.toInt := i_eq c7
          refine lv_aload_n hx hb dX0_readIn_26 rfl (lv_at hl 0 rfl) ?_
          refine lv_iload_n hx hb dX0_readIn_27 rfl (lv_at hl 3 rfl) ?_
          refine e_Vi (As := [.int x4_3]) (rest := [.int x4_2]) X Y hT hS (m_X0_readFor_65 hR2 x4_3 h5) mk_X0_readFor gm_835 rfl rfl (by decide) hd_X0_readFor ⟨rfl, rfl⟩ ⟨Nat.le_of_ble_eq_true rfl, Nat.le_of_ble_eq_true rfl⟩ hl.1 rfl (Nat.le_of_ble_eq_true rfl) dX0_readIn_28 ⟨Nat.zero_le _, Nat.zero_le _⟩ (fun r10 i10 g10 H locs hq hT hS => ?_)
          obtain ⟨hR10, hf10, hr10⟩ := hq
          have hF10 := Fr_tr hF2 hf10 (by decide)
          refine lv_goto (tgt := 35) hx hb dX0_readIn_31 (by decide) ?_
          refine q_iadd hx hb dX0_readIn_35 (fun x11 ex11 => ?_)
          refine lv_istore_n (lv' := [(2, .int x11), (0, .ref (h 65)), (1, .int a_a), (3, .int x4_3)]) hx hb dX0_readIn_36 rfl hl (by decide) rfl (fun ls hl => ?_)
          obtain ⟨x12, ex12⟩ : ∃ y : Int32, y = x4_3 + 1 := ⟨_, rfl⟩
          refine lv_iinc (v := x12) (lv' := [(3, .int x12), (2, .int x11), (0, .ref (h 65)), (1, .int a_a)]) hx hb dX0_readIn_37 hl (k := 3) rfl (by rw [ex12]; rfl) (by decide) rfl (fun ls hl => ?_)
          obtain ⟨hx12, ax12⟩ := rg_add 1 6 ex12 h5 (rg_k (by decide) : rg 1 1 1) (by decide)
          replace ax12 : x12.toInt = x4_3.toInt + 1 := ax12
          refine lv_goto (tgt := 4) hx hb dX0_readIn_40 (by decide) ?_
          exact ih3_ x11 x12 i10 g10 _ _ _ (rg_w hx12 (by decide) : rg 0 6 x12) hR10 hF10 hT hS (lv_sub hl [2, 3, 1, 0] rfl) (m_up ax12 hx12 (by decide) hm3_)
  exact L4_1 _ (0) (0) i g _ _ _ (rg_w (rg_k (by decide) : rg 0 0 0) (by decide) : rg 0 6 0) hR hF hT hS (lv_sub hl [2, 3, 1, 0] rfl) (Nat.lt_succ_self _)
set_option maxRecDepth 100000 in
set_option maxHeartbeats 4000000 in
theorem m_X8_reads {l : Launch} {D : va_G} {h : Nat → Nat} {cz : Nat → ClassId} {z : EZ} {i : Nat → Nat → Int32} {g : Nat → Nat → Int64} (hR : Rg rA i) (a_a : Int32) : DtI l yX8_reads cX8_reads 2 (some .int) ({ frames := 5, cells := 0, slots := 0, locals := 134 } : Room) D h cz z i g [.ref (h 0), .int a_a] (fun r u => Rg rA u.1 ∧ Fr [0, 65, 66, 67, 68, 69, 70, 71] [] i g u) := by
  refine e_I pn_X8_reads (Nat.le_of_ble_eq_true rfl) ?_
  intro p e s m args below meth c ls Q X Y hret hT hl hS
  have hx := X.1
  have hb := X.2.1
  have hl : lv_has ls 2 [(0, .ref (h 0)), (1, .int a_a)] := hl
  have hF : Fr [0, 65, 66, 67, 68, 69, 70, 71] [] i g (i, g) := Fr_rf _ _ _ _
  refine lv_aload_n hx hb dX8_reads_0 rfl (lv_at hl 0 rfl) ?_
  refine r_getr X hT 0 3 15 fk_8_32 rfl rfl (by decide) dX8_reads_1 ?_
  refine lv_iload_n hx hb dX8_reads_4 rfl (lv_at hl 1 rfl) ?_
  refine e_Vi (As := [.int a_a]) (rest := []) X Y hT hS (m_X6_hasWorkingYear_15 hR a_a) mk_X6_hasWorkingYear gm_827 rfl rfl (by decide) hd_X6_hasWorkingYear ⟨rfl, rfl⟩ ⟨Nat.le_of_ble_eq_true rfl, Nat.le_of_ble_eq_true rfl⟩ hl.1 rfl (Nat.le_of_ble_eq_true rfl) dX8_reads_5 ⟨Nat.zero_le _, Nat.zero_le _⟩ (fun r1 i1 g1 H locs hq hT hS => ?_)
  rcases hq with hq | hq
  ·
    obtain ⟨eh1, rfl, hf1_0⟩ := hq
    rw [(Prod.mk.inj eh1).1, (Prod.mk.inj eh1).2] at hT
    have h2 : rg 0 11 a_a := ⟨by have := (rg_top a_a).1; have := hf1_0.1; omega, by have := (rg_top a_a).2; have := hf1_0.2; omega⟩
    refine lv_if_eq (tgt := 22) hx hb dX8_reads_8 (by decide) (fun c3 => (x_eq (rg_k (by decide) : rg 1 1 1) (rg_k (by decide) : rg 0 0 0) (i_eq c3) (by decide)).elim) (fun c3 => ?_)
    refine lv_aload_n hx hb dX8_reads_11 rfl (lv_at hl 0 rfl) ?_
    refine e_Vr (As := []) (rest := []) X Y hT hS (m_X8_current hR) mk_X8_current gm_736 rfl rfl (by decide) hd_X8_current ⟨rfl, rfl⟩ ⟨Nat.le_of_ble_eq_true rfl, Nat.le_of_ble_eq_true rfl⟩ hl.1 rfl (Nat.le_of_ble_eq_true rfl) dX8_reads_12 ⟨Nat.zero_le _, Nat.zero_le _⟩ (fun i4 g4 H locs hq hT hS => ?_)
    obtain ⟨hR4, hf4⟩ := hq
    have hF4 := Fr_tr hF hf4 (by decide)
    refine lv_iload_n hx hb dX8_reads_15 rfl (lv_at hl 1 rfl) ?_
    refine e_Vi (As := [.int a_a]) (rest := []) X Y hT hS (m_X0_readIn_65 hR4 a_a) mk_X0_readIn gm_831 rfl rfl (by decide) hd_X0_readIn ⟨rfl, rfl⟩ ⟨Nat.le_of_ble_eq_true rfl, Nat.le_of_ble_eq_true rfl⟩ hl.1 rfl (Nat.le_of_ble_eq_true rfl) dX8_reads_16 ⟨Nat.zero_le _, Nat.zero_le _⟩ (fun r5 i5 g5 H locs hq hT hS => ?_)
    obtain ⟨hR5, hf5⟩ := hq
    have hF5 := Fr_tr hF4 hf5 (by decide)
    refine lv_goto (tgt := 24) hx hb dX8_reads_19 (by decide) ?_
    exact hret r5 _ _ _ _ _ _ dX8_reads_24 hT hS ⟨hR5, hF5⟩
  ·
    obtain ⟨eh1, rfl⟩ := hq
    rw [(Prod.mk.inj eh1).1, (Prod.mk.inj eh1).2] at hT
    refine lv_if_eq (tgt := 22) hx hb dX8_reads_8 (by decide) (fun c6 => ?_) (fun c6 => (x_ne (rg_k (by decide) : rg 0 0 0) (rg_k (by decide) : rg 0 0 0) (i_ne c6) (by decide)).elim)
    refine lv_bipush (v := (-2)) hx hb dX8_reads_22 (by decide) ?_
    exact hret (-2) _ _ _ _ _ _ dX8_reads_24 hT hS ⟨hR, hF⟩
set_option maxRecDepth 100000 in
set_option maxHeartbeats 4000000 in
theorem m_X0_readInAll_65 {l : Launch} {D : va_G} {h : Nat → Nat} {cz : Nat → ClassId} {z : EZ} {i : Nat → Nat → Int32} {g : Nat → Nat → Int64} (hR : Rg rA i) : DtI l yX0_readInAll cX0_readInAll 3 (some .int) ({ frames := 4, cells := 0, slots := 0, locals := 111 } : Room) D h cz z i g [.ref (h 65)] (fun r u => Rg rA u.1 ∧ Fr [71] [] i g u) := by
  refine e_I pn_X0_readInAll (Nat.le_of_ble_eq_true rfl) ?_
  intro p e s m args below meth c ls Q X Y hret hT hl hS
  have hx := X.1
  have hb := X.2.1
  have hl : lv_has ls 3 [(0, .ref (h 65))] := hl
  have hF : Fr [71] [] i g (i, g) := Fr_rf _ _ _ _
  refine lv_iconst (v := 0) hx hb dX0_readInAll_0 (by decide) ?_
  refine lv_istore_n (lv' := [(1, .int 0), (0, .ref (h 65))]) hx hb dX0_readInAll_1 rfl hl (by decide) rfl (fun ls hl => ?_)
  refine lv_iconst (v := 0) hx hb dX0_readInAll_2 (by decide) ?_
  refine lv_istore_n (lv' := [(2, .int 0), (1, .int 0), (0, .ref (h 65))]) hx hb dX0_readInAll_3 rfl hl (by decide) rfl (fun ls hl => ?_)
  have L4_1 : ∀ (n3_ : Nat) (x4_1 : Int32) (x4_2 : Int32) (i2 : Nat → Nat → Int32) (g2 : Nat → Nat → Int64) (H : Heap) (locs : List Loc) (ls : Array Slot), rg 0 6 x4_2 → Rg rA i2 → Fr [71] [] i g (i2, g2) → TH D h cz i2 g2 H → va_S (hA h) s.heap H locs → lv_has ls 3 [(0, .ref (h 65)), (1, .int x4_1), (2, .int x4_2)] → (6 - x4_2.toInt).toNat < n3_ → W p l e ({ frames := 4, cells := 0, slots := 0, locals := 111 } : Room) s m args below meth c H locs 0 0 Q (F0 m 4 ls []) := by
    intro n3_
    induction n3_ with
    | zero => intro x4_1 x4_2 i2 g2 H locs ls hhx4_2 hR2 hF2 hT hS hl hm3_; exact absurd hm3_ (Nat.not_lt_zero _)
    | succ n3_ ih3_ =>
      intro x4_1 x4_2 i2 g2 H locs ls hhx4_2 hR2 hF2 hT hS hl hm3_
      refine lv_iload_n hx hb dX0_readInAll_4 rfl (lv_at hl 2 rfl) ?_
      refine lv_aload_n hx hb dX0_readInAll_5 rfl (lv_at hl 0 rfl) ?_
      refine r_getr X hT 65 0 15 fk_0_30 rfl rfl (by decide) dX0_readInAll_6 ?_
      refine r_geti X hT 15 13 fk_0_44 rfl rfl (by decide) dX0_readInAll_9 ?_
      refine lv_icmp_ge (tgt := 33) hx hb dX0_readInAll_12 (by decide) (fun c4 => ?_) (fun c4 => ?_)
      ·
        have q4 : (i2 15 13).toInt ≤ x4_2.toInt := i_le c4
        refine lv_iload_n hx hb dX0_readInAll_33 rfl (lv_at hl 1 rfl) ?_
        exact hret x4_1 _ _ _ _ _ _ dX0_readInAll_34 hT hS ⟨hR2, hF2⟩
      ·
        have q4 : x4_2.toInt < (i2 15 13).toInt := i_nle c4
        have h5 : rg 0 5 x4_2 := t_ltx 0 5 hhx4_2 (Rg_at hR2 15 13 0 6 (by decide) rfl) (i_nle c4) (by decide)
        have h6 : rg 1 6 (i2 15 13) := t_lty 1 6 hhx4_2 (Rg_at hR2 15 13 0 6 (by decide) rfl) (i_nle c4) (by decide)
        refine lv_iload_n hx hb dX0_readInAll_15 rfl (lv_at hl 1 rfl) ?_
        refine lv_iconst (v := 0) hx hb dX0_readInAll_16 (by decide) ?_
        refine lv_aload_n hx hb dX0_readInAll_17 rfl (lv_at hl 0 rfl) ?_
        refine lv_iload_n hx hb dX0_readInAll_18 rfl (lv_at hl 2 rfl) ?_
        refine e_Vi (As := [.int x4_2]) (rest := [.int 0, .int x4_1]) X Y hT hS (m_X0_readFor_65 hR2 x4_2 h5) mk_X0_readFor gm_835 rfl rfl (by decide) hd_X0_readFor ⟨rfl, rfl⟩ ⟨Nat.le_of_ble_eq_true rfl, Nat.le_of_ble_eq_true rfl⟩ hl.1 rfl (Nat.le_of_ble_eq_true rfl) dX0_readInAll_19 ⟨Nat.zero_le _, Nat.zero_le _⟩ (fun r7 i7 g7 H locs hq hT hS => ?_)
        obtain ⟨hR7, hf7, hr7⟩ := hq
        have hF7 := Fr_tr hF2 hf7 (by decide)
        refine e_mmax X hl.1 gm_781 gm_782 gm_118 mw_e_mmax (Nat.le_of_ble_eq_true rfl) (Nat.le_of_ble_eq_true rfl) ⟨Nat.zero_le _, Nat.zero_le _⟩ dX0_readInAll_22 (fun x8 ex8 => ?_)
        have h9 : rg 0 60 x8 := rg_mx ex8 (rg_k (by decide) : rg 0 0 0) hr7 (by decide)
        refine q_iadd hx hb dX0_readInAll_25 (fun x10 ex10 => ?_)
        refine lv_istore_n (lv' := [(1, .int x10), (0, .ref (h 65)), (2, .int x4_2)]) hx hb dX0_readInAll_26 rfl hl (by decide) rfl (fun ls hl => ?_)
        obtain ⟨x11, ex11⟩ : ∃ y : Int32, y = x4_2 + 1 := ⟨_, rfl⟩
        refine lv_iinc (v := x11) (lv' := [(2, .int x11), (1, .int x10), (0, .ref (h 65))]) hx hb dX0_readInAll_27 hl (k := 2) rfl (by rw [ex11]; rfl) (by decide) rfl (fun ls hl => ?_)
        obtain ⟨hx11, ax11⟩ := rg_add 1 6 ex11 h5 (rg_k (by decide) : rg 1 1 1) (by decide)
        replace ax11 : x11.toInt = x4_2.toInt + 1 := ax11
        refine lv_goto (tgt := 4) hx hb dX0_readInAll_30 (by decide) ?_
        exact ih3_ x10 x11 i7 g7 _ _ _ (rg_w hx11 (by decide) : rg 0 6 x11) hR7 hF7 hT hS (lv_sub hl [2, 1, 0] rfl) (m_up ax11 hx11 (by decide) hm3_)
  exact L4_1 _ (0) (0) i g _ _ _ (rg_w (rg_k (by decide) : rg 0 0 0) (by decide) : rg 0 6 0) hR hF hT hS (lv_sub hl [2, 1, 0] rfl) (Nat.lt_succ_self _)
set_option maxRecDepth 100000 in
set_option maxHeartbeats 4000000 in
theorem m_X8_all {l : Launch} {D : va_G} {h : Nat → Nat} {cz : Nat → ClassId} {z : EZ} {i : Nat → Nat → Int32} {g : Nat → Nat → Int64} (hR : Rg rA i) : DtI l yX8_all cX8_all 1 (some .int) ({ frames := 5, cells := 0, slots := 0, locals := 133 } : Room) D h cz z i g [.ref (h 0)] (fun r u => Rg rA u.1 ∧ Fr [0, 65, 66, 67, 68, 69, 70, 71] [] i g u) := by
  refine e_I pn_X8_all (Nat.le_of_ble_eq_true rfl) ?_
  intro p e s m args below meth c ls Q X Y hret hT hl hS
  have hx := X.1
  have hb := X.2.1
  have hl : lv_has ls 1 [(0, .ref (h 0))] := hl
  have hF : Fr [0, 65, 66, 67, 68, 69, 70, 71] [] i g (i, g) := Fr_rf _ _ _ _
  refine lv_aload_n hx hb dX8_all_0 rfl (lv_at hl 0 rfl) ?_
  refine r_getr X hT 0 3 15 fk_8_32 rfl rfl (by decide) dX8_all_1 ?_
  refine e_Vi (As := []) (rest := []) X Y hT hS (m_X6_isTold_15 hR) mk_X6_isTold gm_698 rfl rfl (by decide) hd_X6_isTold ⟨rfl, rfl⟩ ⟨Nat.le_of_ble_eq_true rfl, Nat.le_of_ble_eq_true rfl⟩ hl.1 rfl (Nat.le_of_ble_eq_true rfl) dX8_all_4 ⟨Nat.zero_le _, Nat.zero_le _⟩ (fun r1 i1 g1 H locs hq hT hS => ?_)
  obtain ⟨eh1, hr1⟩ := hq
  rw [(Prod.mk.inj eh1).1, (Prod.mk.inj eh1).2] at hT
  refine lv_if_eq (tgt := 20) hx hb dX8_all_7 (by decide) (fun c2 => ?_) (fun c2 => ?_)
  ·
    have q2 : r1.toInt = 0 := i_eq c2
    have h3 : rg 0 0 r1 := t_eqx 0 0 hr1 (rg_k (by decide) : rg 0 0 0) (i_eq c2) (by decide)
    refine lv_bipush (v := (-2)) hx hb dX8_all_20 (by decide) ?_
    exact hret (-2) _ _ _ _ _ _ dX8_all_22 hT hS ⟨hR, hF⟩
  ·
    have q2 : ¬ r1.toInt = 0 := i_ne c2
    have h4 : rg 1 1 r1 := t_nelo 1 hr1 (rg_k (by decide) : rg 0 0 0) (i_ne c2) (by decide)
    refine lv_aload_n hx hb dX8_all_10 rfl (lv_at hl 0 rfl) ?_
    refine e_Vr (As := []) (rest := []) X Y hT hS (m_X8_current hR) mk_X8_current gm_736 rfl rfl (by decide) hd_X8_current ⟨rfl, rfl⟩ ⟨Nat.le_of_ble_eq_true rfl, Nat.le_of_ble_eq_true rfl⟩ hl.1 rfl (Nat.le_of_ble_eq_true rfl) dX8_all_11 ⟨Nat.zero_le _, Nat.zero_le _⟩ (fun i5 g5 H locs hq hT hS => ?_)
    obtain ⟨hR5, hf5⟩ := hq
    have hF5 := Fr_tr hF hf5 (by decide)
    refine e_Vi (As := []) (rest := []) X Y hT hS (m_X0_readInAll_65 hR5) mk_X0_readInAll gm_840 rfl rfl (by decide) hd_X0_readInAll ⟨rfl, rfl⟩ ⟨Nat.le_of_ble_eq_true rfl, Nat.le_of_ble_eq_true rfl⟩ hl.1 rfl (Nat.le_of_ble_eq_true rfl) dX8_all_14 ⟨Nat.zero_le _, Nat.zero_le _⟩ (fun r6 i6 g6 H locs hq hT hS => ?_)
    obtain ⟨hR6, hf6⟩ := hq
    have hF6 := Fr_tr hF5 hf6 (by decide)
    refine lv_goto (tgt := 22) hx hb dX8_all_17 (by decide) ?_
    exact hret r6 _ _ _ _ _ _ dX8_all_22 hT hS ⟨hR6, hF6⟩
set_option maxRecDepth 100000 in
set_option maxHeartbeats 4000000 in
theorem m_X0_shutWorth_65 {l : Launch} {D : va_G} {h : Nat → Nat} {cz : Nat → ClassId} {z : EZ} {i : Nat → Nat → Int32} {g : Nat → Nat → Int64} (hR : Rg rA i) (a_a : Int32) (a_b : Int32) (ha_a : rg 0 5 a_a) (ha_b : rg 0 12 a_b) : DtI l yX0_shutWorth cX0_shutWorth 3 (some .int) ({ frames := 3, cells := 0, slots := 0, locals := 89 } : Room) D h cz z i g [.ref (h 65), .int a_a, .int a_b] (fun r u => Rg rA u.1 ∧ Fr [71] [] i g u ∧ rg (-1) 60 r) := by
  refine e_I pn_X0_shutWorth (Nat.le_of_ble_eq_true rfl) ?_
  intro p e s m args below meth c ls Q X Y hret hT hl hS
  have hx := X.1
  have hb := X.2.1
  have hl : lv_has ls 3 [(0, .ref (h 65)), (1, .int a_a), (2, .int a_b)] := hl
  have hF : Fr [71] [] i g (i, g) := Fr_rf _ _ _ _
  refine lv_aload_n hx hb dX0_shutWorth_0 rfl (lv_at hl 0 rfl) ?_
  refine r_getr X hT 65 4 69 fk_0_21 rfl rfl (by decide) dX0_shutWorth_1 ?_
  refine lv_iload_n hx hb dX0_shutWorth_4 rfl (lv_at hl 2 rfl) ?_
  refine r_iald X hT 69 rfl (by decide) (v_in ha_b (by decide)) dX0_shutWorth_5 ?_
  refine lv_iload_n hx hb dX0_shutWorth_6 rfl (lv_at hl 1 rfl) ?_
  refine e_Ni (As := [.int (i 69 a_b.toNatClampNeg), .int a_a]) (rest := []) X Y hT hS (m_X8_hasBit (i 69 a_b.toNatClampNeg) a_a) sk_X8_hasBit Y.n1 hd_X8_hasBit ⟨rfl, rfl⟩ ⟨Nat.le_of_ble_eq_true rfl, Nat.le_of_ble_eq_true rfl⟩ hl.1 rfl (Nat.le_of_ble_eq_true rfl) dX0_shutWorth_7 ⟨Nat.zero_le _, Nat.zero_le _⟩ (fun r1 i1 g1 H locs hq hT hS => ?_)
  obtain ⟨eh1, hr1⟩ := hq
  rw [(Prod.mk.inj eh1).1, (Prod.mk.inj eh1).2] at hT
  refine lv_if_eq (tgt := 15) hx hb dX0_shutWorth_10 (by decide) (fun c2 => ?_) (fun c2 => ?_)
  ·
    have q2 : r1.toInt = 0 := i_eq c2
    have h3 : rg 0 0 r1 := t_eqx 0 0 hr1 (rg_k (by decide) : rg 0 0 0) (i_eq c2) (by decide)
    refine lv_iconst (v := 0) hx hb dX0_shutWorth_15 (by decide) ?_
    refine lv_aload_n hx hb dX0_shutWorth_16 rfl (lv_at hl 0 rfl) ?_
    refine r_getr X hT 65 0 15 fk_0_30 rfl rfl (by decide) dX0_shutWorth_17 ?_
    refine r_getr X hT 15 0 16 fk_0_128 rfl rfl (by decide) dX0_shutWorth_20 ?_
    refine lv_iload_n hx hb dX0_shutWorth_23 rfl (lv_at hl 1 rfl) ?_
    refine r_iald X hT 16 rfl (by decide) (v_in ha_a (by decide)) dX0_shutWorth_24 ?_
    refine lv_aload_n hx hb dX0_shutWorth_25 rfl (lv_at hl 0 rfl) ?_
    refine lv_iload_n hx hb dX0_shutWorth_26 rfl (lv_at hl 1 rfl) ?_
    refine lv_aload_n hx hb dX0_shutWorth_27 rfl (lv_at hl 0 rfl) ?_
    refine r_getr X hT 65 0 15 fk_0_30 rfl rfl (by decide) dX0_shutWorth_28 ?_
    refine r_getr X hT 15 2 18 fk_0_99 rfl rfl (by decide) dX0_shutWorth_31 ?_
    refine lv_iload_n hx hb dX0_shutWorth_34 rfl (lv_at hl 1 rfl) ?_
    refine r_iald X hT 18 rfl (by decide) (v_in ha_a (by decide)) dX0_shutWorth_35 ?_
    refine lv_iload_n hx hb dX0_shutWorth_36 rfl (lv_at hl 2 rfl) ?_
    refine e_Vi (As := [.int a_a, .int (i 18 a_a.toNatClampNeg), .int a_b]) (rest := [.int (i 16 a_a.toNatClampNeg), .int 0]) X Y hT hS (m_X0_follow_65 hR a_a (i 18 a_a.toNatClampNeg) a_b ha_a (Rg_at hR 18 a_a.toNatClampNeg 0 60 (v_lt (v_in ha_a (by decide))) rfl)) mk_X0_follow gm_773 rfl rfl (by decide) hd_X0_follow ⟨rfl, rfl⟩ ⟨Nat.le_of_ble_eq_true rfl, Nat.le_of_ble_eq_true rfl⟩ hl.1 rfl (Nat.le_of_ble_eq_true rfl) dX0_shutWorth_37 ⟨Nat.zero_le _, Nat.zero_le _⟩ (fun r4 i4 g4 H locs hq hT hS => ?_)
    obtain ⟨hR4, hf4, hr4⟩ := hq
    have hF4 := Fr_tr hF hf4 (by decide)
    refine q_isub hx hb dX0_shutWorth_40 (fun x5 ex5 => ?_)
    obtain ⟨hx5, ax5⟩ := rg_sub (-99) 60 ex5 (Rg_at hR 16 a_a.toNatClampNeg 0 60 (v_lt (v_in ha_a (by decide))) rfl) hr4 (by decide)
    replace ax5 : x5.toInt = (i 16 a_a.toNatClampNeg).toInt - r4.toInt := ax5
    refine e_mmax X hl.1 gm_781 gm_782 gm_118 mw_e_mmax (Nat.le_of_ble_eq_true rfl) (Nat.le_of_ble_eq_true rfl) ⟨Nat.zero_le _, Nat.zero_le _⟩ dX0_shutWorth_41 (fun x6 ex6 => ?_)
    have h7 : rg 0 60 x6 := rg_mx ex6 (rg_k (by decide) : rg 0 0 0) hx5 (by decide)
    exact hret x6 _ _ _ _ _ _ dX0_shutWorth_44 hT hS ⟨hR4, hF4, (rg_w h7 (by decide) : rg (-1) 60 x6)⟩
  ·
    have q2 : ¬ r1.toInt = 0 := i_ne c2
    have h8 : rg 1 1 r1 := t_nelo 1 hr1 (rg_k (by decide) : rg 0 0 0) (i_ne c2) (by decide)
    refine lv_iconst (v := (-1)) hx hb dX0_shutWorth_13 (by decide) ?_
    exact hret (-1) _ _ _ _ _ _ dX0_shutWorth_14 hT hS ⟨hR, hF, (rg_w (rg_k (by decide) : rg (-1) (-1) (-1)) (by decide) : rg (-1) 60 (-1))⟩
set_option maxRecDepth 100000 in
set_option maxHeartbeats 4000000 in
theorem m_X8_keeps {l : Launch} {D : va_G} {h : Nat → Nat} {cz : Nat → ClassId} {z : EZ} {i : Nat → Nat → Int32} {g : Nat → Nat → Int64} (hR : Rg rA i) (a_a : Int32) (a_b : Int32) : DtI l yX8_keeps cX8_keeps 3 (some .int) ({ frames := 5, cells := 0, slots := 0, locals := 111 } : Room) D h cz z i g [.ref (h 0), .int a_a, .int a_b] (fun r u => Rg rA u.1 ∧ Fr [0, 65, 66, 67, 68, 69, 70, 71] [] i g u ∧ rg (-2) 60 r) := by
  refine e_I pn_X8_keeps (Nat.le_of_ble_eq_true rfl) ?_
  intro p e s m args below meth c ls Q X Y hret hT hl hS
  have hx := X.1
  have hb := X.2.1
  have hl : lv_has ls 3 [(0, .ref (h 0)), (1, .int a_a), (2, .int a_b)] := hl
  have hF : Fr [0, 65, 66, 67, 68, 69, 70, 71] [] i g (i, g) := Fr_rf _ _ _ _
  refine lv_aload_n hx hb dX8_keeps_0 rfl (lv_at hl 0 rfl) ?_
  refine lv_iload_n hx hb dX8_keeps_1 rfl (lv_at hl 1 rfl) ?_
  refine lv_iload_n hx hb dX8_keeps_2 rfl (lv_at hl 2 rfl) ?_
  refine e_Vi (As := [.int a_a, .int a_b]) (rest := []) X Y hT hS (m_X8_hasPartAndYear hR a_a a_b) mk_X8_hasPartAndYear gm_727 rfl rfl (by decide) hd_X8_hasPartAndYear ⟨rfl, rfl⟩ ⟨Nat.le_of_ble_eq_true rfl, Nat.le_of_ble_eq_true rfl⟩ hl.1 rfl (Nat.le_of_ble_eq_true rfl) dX8_keeps_3 ⟨Nat.zero_le _, Nat.zero_le _⟩ (fun r1 i1 g1 H locs hq hT hS => ?_)
  rcases hq with hq | hq
  ·
    obtain ⟨eh1, rfl, hf1_0, hf1_1⟩ := hq
    rw [(Prod.mk.inj eh1).1, (Prod.mk.inj eh1).2] at hT
    have h2 : rg 0 5 a_a := ⟨by have := (rg_top a_a).1; have := hf1_0.1; omega, by have := (rg_top a_a).2; have := hf1_0.2; omega⟩
    have h3 : rg 0 12 a_b := ⟨by have := (rg_top a_b).1; have := hf1_1.1; omega, by have := (rg_top a_b).2; have := hf1_1.2; omega⟩
    refine lv_if_eq (tgt := 21) hx hb dX8_keeps_6 (by decide) (fun c4 => (x_eq (rg_k (by decide) : rg 1 1 1) (rg_k (by decide) : rg 0 0 0) (i_eq c4) (by decide)).elim) (fun c4 => ?_)
    refine lv_aload_n hx hb dX8_keeps_9 rfl (lv_at hl 0 rfl) ?_
    refine e_Vr (As := []) (rest := []) X Y hT hS (m_X8_current hR) mk_X8_current gm_736 rfl rfl (by decide) hd_X8_current ⟨rfl, rfl⟩ ⟨Nat.le_of_ble_eq_true rfl, Nat.le_of_ble_eq_true rfl⟩ hl.1 rfl (Nat.le_of_ble_eq_true rfl) dX8_keeps_10 ⟨Nat.zero_le _, Nat.zero_le _⟩ (fun i5 g5 H locs hq hT hS => ?_)
    obtain ⟨hR5, hf5⟩ := hq
    have hF5 := Fr_tr hF hf5 (by decide)
    refine lv_iload_n hx hb dX8_keeps_13 rfl (lv_at hl 1 rfl) ?_
    refine lv_iload_n hx hb dX8_keeps_14 rfl (lv_at hl 2 rfl) ?_
    refine e_Vi (As := [.int a_a, .int a_b]) (rest := []) X Y hT hS (m_X0_shutWorth_65 hR5 a_a a_b h2 h3) mk_X0_shutWorth gm_848 rfl rfl (by decide) hd_X0_shutWorth ⟨rfl, rfl⟩ ⟨Nat.le_of_ble_eq_true rfl, Nat.le_of_ble_eq_true rfl⟩ hl.1 rfl (Nat.le_of_ble_eq_true rfl) dX8_keeps_15 ⟨Nat.zero_le _, Nat.zero_le _⟩ (fun r6 i6 g6 H locs hq hT hS => ?_)
    obtain ⟨hR6, hf6, hr6⟩ := hq
    have hF6 := Fr_tr hF5 hf6 (by decide)
    refine lv_goto (tgt := 23) hx hb dX8_keeps_18 (by decide) ?_
    exact hret r6 _ _ _ _ _ _ dX8_keeps_23 hT hS ⟨hR6, hF6, (rg_w hr6 (by decide) : rg (-2) 60 r6)⟩
  ·
    obtain ⟨eh1, rfl⟩ := hq
    rw [(Prod.mk.inj eh1).1, (Prod.mk.inj eh1).2] at hT
    refine lv_if_eq (tgt := 21) hx hb dX8_keeps_6 (by decide) (fun c7 => ?_) (fun c7 => (x_ne (rg_k (by decide) : rg 0 0 0) (rg_k (by decide) : rg 0 0 0) (i_ne c7) (by decide)).elim)
    refine lv_bipush (v := (-2)) hx hb dX8_keeps_21 (by decide) ?_
    exact hret (-2) _ _ _ _ _ _ dX8_keeps_23 hT hS ⟨hR, hF, (rg_w (rg_k (by decide) : rg (-2) (-2) (-2)) (by decide) : rg (-2) 60 (-2))⟩
set_option maxRecDepth 100000 in
set_option maxHeartbeats 4000000 in
theorem m_X8_waits {l : Launch} {D : va_G} {h : Nat → Nat} {cz : Nat → ClassId} {z : EZ} {i : Nat → Nat → Int32} {g : Nat → Nat → Int64} (hR : Rg rA i) (a_a : Int32) : DtI l yX8_waits cX8_waits 4 (some .int) ({ frames := 5, cells := 0, slots := 0, locals := 111 } : Room) D h cz z i g [.ref (h 0), .int a_a] (fun r u => Rg rA u.1 ∧ Fr [0, 65, 66, 67, 68, 69, 70, 71] [] i g u) := by
  refine e_I pn_X8_waits (Nat.le_of_ble_eq_true rfl) ?_
  intro p e s m args below meth c ls Q X Y hret hT hl hS
  have hx := X.1
  have hb := X.2.1
  have hl : lv_has ls 4 [(0, .ref (h 0)), (1, .int a_a)] := hl
  have hF : Fr [0, 65, 66, 67, 68, 69, 70, 71] [] i g (i, g) := Fr_rf _ _ _ _
  refine lv_aload_n hx hb dX8_waits_0 rfl (lv_at hl 0 rfl) ?_
  refine r_getr X hT 0 3 15 fk_8_32 rfl rfl (by decide) dX8_waits_1 ?_
  refine lv_iload_n hx hb dX8_waits_4 rfl (lv_at hl 1 rfl) ?_
  refine e_Vi (As := [.int a_a]) (rest := []) X Y hT hS (m_X6_hasYear_15 hR a_a) mk_X6_hasYear gm_731 rfl rfl (by decide) hd_X6_hasYear ⟨rfl, rfl⟩ ⟨Nat.le_of_ble_eq_true rfl, Nat.le_of_ble_eq_true rfl⟩ hl.1 rfl (Nat.le_of_ble_eq_true rfl) dX8_waits_5 ⟨Nat.zero_le _, Nat.zero_le _⟩ (fun r1 i1 g1 H locs hq hT hS => ?_)
  rcases hq with hq | hq
  ·
    obtain ⟨eh1, rfl, hf1_0⟩ := hq
    rw [(Prod.mk.inj eh1).1, (Prod.mk.inj eh1).2] at hT
    have h2 : rg 0 12 a_a := ⟨by have := (rg_top a_a).1; have := hf1_0.1; omega, by have := (rg_top a_a).2; have := hf1_0.2; omega⟩
    refine lv_if_ne (tgt := 14) hx hb dX8_waits_8 (by decide) (fun c3 => ?_) (fun c3 => (x_eq (rg_k (by decide) : rg 1 1 1) (rg_k (by decide) : rg 0 0 0) (i_eq c3) (by decide)).elim)
    refine lv_iconst (v := 0) hx hb dX8_waits_14 (by decide) ?_
    refine lv_istore_n (lv' := [(2, .int 0), (0, .ref (h 0)), (1, .int a_a)]) hx hb dX8_waits_15 rfl hl (by decide) rfl (fun ls hl => ?_)
    refine lv_iconst (v := 0) hx hb dX8_waits_16 (by decide) ?_
    refine lv_istore_n (lv' := [(3, .int 0), (2, .int 0), (0, .ref (h 0)), (1, .int a_a)]) hx hb dX8_waits_17 rfl hl (by decide) rfl (fun ls hl => ?_)
    have L18_4 : ∀ (n6_ : Nat) (x18_2 : Int32) (x18_3 : Int32) (i5 : Nat → Nat → Int32) (g5 : Nat → Nat → Int64) (H : Heap) (locs : List Loc) (ls : Array Slot), rg 0 6 x18_3 → Rg rA i5 → Fr [0, 65, 66, 67, 68, 69, 70, 71] [] i g (i5, g5) → TH D h cz i5 g5 H → va_S (hA h) s.heap H locs → lv_has ls 4 [(0, .ref (h 0)), (1, .int a_a), (2, .int x18_2), (3, .int x18_3)] → (6 - x18_3.toInt).toNat < n6_ → W p l e ({ frames := 5, cells := 0, slots := 0, locals := 111 } : Room) s m args below meth c H locs 0 0 Q (F0 m 18 ls []) := by
      intro n6_
      induction n6_ with
      | zero => intro x18_2 x18_3 i5 g5 H locs ls hhx18_3 hR5 hF5 hT hS hl hm6_; exact absurd hm6_ (Nat.not_lt_zero _)
      | succ n6_ ih6_ =>
        intro x18_2 x18_3 i5 g5 H locs ls hhx18_3 hR5 hF5 hT hS hl hm6_
        refine lv_iload_n hx hb dX8_waits_18 rfl (lv_at hl 3 rfl) ?_
        refine lv_aload_n hx hb dX8_waits_19 rfl (lv_at hl 0 rfl) ?_
        refine r_getr X hT 0 3 15 fk_8_32 rfl rfl (by decide) dX8_waits_20 ?_
        refine r_geti X hT 15 13 fk_8_156 rfl rfl (by decide) dX8_waits_23 ?_
        refine lv_icmp_ge (tgt := 51) hx hb dX8_waits_26 (by decide) (fun c7 => ?_) (fun c7 => ?_)
        ·
          have q7 : (i5 15 13).toInt ≤ x18_3.toInt := i_le c7
          refine lv_iload_n hx hb dX8_waits_51 rfl (lv_at hl 2 rfl) ?_
          exact hret x18_2 _ _ _ _ _ _ dX8_waits_52 hT hS ⟨hR5, hF5⟩
        ·
          have q7 : x18_3.toInt < (i5 15 13).toInt := i_nle c7
          have h8 : rg 0 5 x18_3 := t_ltx 0 5 hhx18_3 (Rg_at hR5 15 13 0 6 (by decide) rfl) (i_nle c7) (by decide)
          have h9 : rg 1 6 (i5 15 13) := t_lty 1 6 hhx18_3 (Rg_at hR5 15 13 0 6 (by decide) rfl) (i_nle c7) (by decide)
          refine lv_iload_n hx hb dX8_waits_29 rfl (lv_at hl 2 rfl) ?_
          refine lv_iconst (v := 0) hx hb dX8_waits_30 (by decide) ?_
          refine lv_aload_n hx hb dX8_waits_31 rfl (lv_at hl 0 rfl) ?_
          refine e_Vr (As := []) (rest := [.int 0, .int x18_2]) X Y hT hS (m_X8_current hR5) mk_X8_current gm_736 rfl rfl (by decide) hd_X8_current ⟨rfl, rfl⟩ ⟨Nat.le_of_ble_eq_true rfl, Nat.le_of_ble_eq_true rfl⟩ hl.1 rfl (Nat.le_of_ble_eq_true rfl) dX8_waits_32 ⟨Nat.zero_le _, Nat.zero_le _⟩ (fun i10 g10 H locs hq hT hS => ?_)
          obtain ⟨hR10, hf10⟩ := hq
          have hF10 := Fr_tr hF5 hf10 (by decide)
          refine lv_iload_n hx hb dX8_waits_35 rfl (lv_at hl 3 rfl) ?_
          refine lv_iload_n hx hb dX8_waits_36 rfl (lv_at hl 1 rfl) ?_
          refine e_Vi (As := [.int x18_3, .int a_a]) (rest := [.int 0, .int x18_2]) X Y hT hS (m_X0_shutWorth_65 hR10 x18_3 a_a h8 h2) mk_X0_shutWorth gm_848 rfl rfl (by decide) hd_X0_shutWorth ⟨rfl, rfl⟩ ⟨Nat.le_of_ble_eq_true rfl, Nat.le_of_ble_eq_true rfl⟩ hl.1 rfl (Nat.le_of_ble_eq_true rfl) dX8_waits_37 ⟨Nat.zero_le _, Nat.zero_le _⟩ (fun r11 i11 g11 H locs hq hT hS => ?_)
          obtain ⟨hR11, hf11, hr11⟩ := hq
          have hF11 := Fr_tr hF10 hf11 (by decide)
          refine e_mmax X hl.1 gm_856 gm_782 gm_118 mw_e_mmax (Nat.le_of_ble_eq_true rfl) (Nat.le_of_ble_eq_true rfl) ⟨Nat.zero_le _, Nat.zero_le _⟩ dX8_waits_40 (fun x12 ex12 => ?_)
          have h13 : rg 0 60 x12 := rg_mx ex12 (rg_k (by decide) : rg 0 0 0) hr11 (by decide)
          refine q_iadd hx hb dX8_waits_43 (fun x14 ex14 => ?_)
          refine lv_istore_n (lv' := [(2, .int x14), (0, .ref (h 0)), (1, .int a_a), (3, .int x18_3)]) hx hb dX8_waits_44 rfl hl (by decide) rfl (fun ls hl => ?_)
          obtain ⟨x15, ex15⟩ : ∃ y : Int32, y = x18_3 + 1 := ⟨_, rfl⟩
          refine lv_iinc (v := x15) (lv' := [(3, .int x15), (2, .int x14), (0, .ref (h 0)), (1, .int a_a)]) hx hb dX8_waits_45 hl (k := 3) rfl (by rw [ex15]; rfl) (by decide) rfl (fun ls hl => ?_)
          obtain ⟨hx15, ax15⟩ := rg_add 1 6 ex15 h8 (rg_k (by decide) : rg 1 1 1) (by decide)
          replace ax15 : x15.toInt = x18_3.toInt + 1 := ax15
          refine lv_goto (tgt := 18) hx hb dX8_waits_48 (by decide) ?_
          exact ih6_ x14 x15 i11 g11 _ _ _ (rg_w hx15 (by decide) : rg 0 6 x15) hR11 hF11 hT hS (lv_sub hl [2, 3, 1, 0] rfl) (m_up ax15 hx15 (by decide) hm6_)
    exact L18_4 _ (0) (0) i g _ _ _ (rg_w (rg_k (by decide) : rg 0 0 0) (by decide) : rg 0 6 0) hR hF hT hS (lv_sub hl [2, 3, 1, 0] rfl) (Nat.lt_succ_self _)
  ·
    obtain ⟨eh1, rfl⟩ := hq
    rw [(Prod.mk.inj eh1).1, (Prod.mk.inj eh1).2] at hT
    refine lv_if_ne (tgt := 14) hx hb dX8_waits_8 (by decide) (fun c16 => (x_ne (rg_k (by decide) : rg 0 0 0) (rg_k (by decide) : rg 0 0 0) (i_ne c16) (by decide)).elim) (fun c16 => ?_)
    refine lv_bipush (v := (-2)) hx hb dX8_waits_11 (by decide) ?_
    exact hret (-2) _ _ _ _ _ _ dX8_waits_13 hT hS ⟨hR, hF⟩
set_option maxRecDepth 100000 in
set_option maxHeartbeats 4000000 in
theorem m_X8_next {l : Launch} {D : va_G} {h : Nat → Nat} {cz : Nat → ClassId} {z : EZ} {i : Nat → Nat → Int32} {g : Nat → Nat → Int64} (hR : Rg rA i) (a_a : Int32) : DtI l yX8_next cX8_next 6 (some .int) ({ frames := 5, cells := 0, slots := 0, locals := 111 } : Room) D h cz z i g [.ref (h 0), .int a_a] (fun r u => Rg rA u.1 ∧ Fr [0, 65, 66, 67, 68, 69, 70, 71] [] i g u ∧ rg (-2) 5 r) := by
  refine e_I pn_X8_next (Nat.le_of_ble_eq_true rfl) ?_
  intro p e s m args below meth c ls Q X Y hret hT hl hS
  have hx := X.1
  have hb := X.2.1
  have hl : lv_has ls 6 [(0, .ref (h 0)), (1, .int a_a)] := hl
  have hF : Fr [0, 65, 66, 67, 68, 69, 70, 71] [] i g (i, g) := Fr_rf _ _ _ _
  refine lv_aload_n hx hb dX8_next_0 rfl (lv_at hl 0 rfl) ?_
  refine r_getr X hT 0 3 15 fk_8_32 rfl rfl (by decide) dX8_next_1 ?_
  refine lv_iload_n hx hb dX8_next_4 rfl (lv_at hl 1 rfl) ?_
  refine e_Vi (As := [.int a_a]) (rest := []) X Y hT hS (m_X6_hasYear_15 hR a_a) mk_X6_hasYear gm_731 rfl rfl (by decide) hd_X6_hasYear ⟨rfl, rfl⟩ ⟨Nat.le_of_ble_eq_true rfl, Nat.le_of_ble_eq_true rfl⟩ hl.1 rfl (Nat.le_of_ble_eq_true rfl) dX8_next_5 ⟨Nat.zero_le _, Nat.zero_le _⟩ (fun r1 i1 g1 H locs hq hT hS => ?_)
  rcases hq with hq | hq
  ·
    obtain ⟨eh1, rfl, hf1_0⟩ := hq
    rw [(Prod.mk.inj eh1).1, (Prod.mk.inj eh1).2] at hT
    have h2 : rg 0 12 a_a := ⟨by have := (rg_top a_a).1; have := hf1_0.1; omega, by have := (rg_top a_a).2; have := hf1_0.2; omega⟩
    refine lv_if_ne (tgt := 14) hx hb dX8_next_8 (by decide) (fun c3 => ?_) (fun c3 => (x_eq (rg_k (by decide) : rg 1 1 1) (rg_k (by decide) : rg 0 0 0) (i_eq c3) (by decide)).elim)
    refine lv_iconst (v := (-1)) hx hb dX8_next_14 (by decide) ?_
    refine lv_istore_n (lv' := [(2, .int (-1)), (0, .ref (h 0)), (1, .int a_a)]) hx hb dX8_next_15 rfl hl (by decide) rfl (fun ls hl => ?_)
    refine lv_iconst (v := (-1)) hx hb dX8_next_16 (by decide) ?_
    refine lv_istore_n (lv' := [(3, .int (-1)), (2, .int (-1)), (0, .ref (h 0)), (1, .int a_a)]) hx hb dX8_next_17 rfl hl (by decide) rfl (fun ls hl => ?_)
    refine lv_iconst (v := 0) hx hb dX8_next_18 (by decide) ?_
    refine lv_istore (lv' := [(4, .int 0), (3, .int (-1)), (2, .int (-1)), (0, .ref (h 0)), (1, .int a_a)]) hx hb dX8_next_19 hl (by decide) rfl (fun ls hl => ?_)
    have L21_4 : ∀ (n6_ : Nat) (x21_2 : Int32) (x21_3 : Int32) (x21_4 : Int32) (i5 : Nat → Nat → Int32) (g5 : Nat → Nat → Int64) (H : Heap) (locs : List Loc) (ls : Array Slot), rg (-1) 5 x21_2 → rg (-1) 60 x21_3 → rg 0 6 x21_4 → Rg rA i5 → Fr [0, 65, 66, 67, 68, 69, 70, 71] [] i g (i5, g5) → TH D h cz i5 g5 H → va_S (hA h) s.heap H locs → lv_has ls 6 [(0, .ref (h 0)), (1, .int a_a), (2, .int x21_2), (3, .int x21_3), (4, .int x21_4)] → (6 - x21_4.toInt).toNat < n6_ → W p l e ({ frames := 5, cells := 0, slots := 0, locals := 111 } : Room) s m args below meth c H locs 0 0 Q (F0 m 21 ls []) := by
      intro n6_
      induction n6_ with
      | zero => intro x21_2 x21_3 x21_4 i5 g5 H locs ls hhx21_2 hhx21_3 hhx21_4 hR5 hF5 hT hS hl hm6_; exact absurd hm6_ (Nat.not_lt_zero _)
      | succ n6_ ih6_ =>
        intro x21_2 x21_3 x21_4 i5 g5 H locs ls hhx21_2 hhx21_3 hhx21_4 hR5 hF5 hT hS hl hm6_
        refine lv_iload hx hb dX8_next_21 (lv_at hl 4 rfl) ?_
        refine lv_aload_n hx hb dX8_next_23 rfl (lv_at hl 0 rfl) ?_
        refine r_getr X hT 0 3 15 fk_8_32 rfl rfl (by decide) dX8_next_24 ?_
        refine r_geti X hT 15 13 fk_8_156 rfl rfl (by decide) dX8_next_27 ?_
        refine lv_icmp_ge (tgt := 63) hx hb dX8_next_30 (by decide) (fun c7 => ?_) (fun c7 => ?_)
        ·
          have q7 : (i5 15 13).toInt ≤ x21_4.toInt := i_le c7
          refine lv_iload_n hx hb dX8_next_63 rfl (lv_at hl 2 rfl) ?_
          exact hret x21_2 _ _ _ _ _ _ dX8_next_64 hT hS ⟨hR5, hF5, (rg_w hhx21_2 (by decide) : rg (-2) 5 x21_2)⟩
        ·
          have q7 : x21_4.toInt < (i5 15 13).toInt := i_nle c7
          have h8 : rg 0 5 x21_4 := t_ltx 0 5 hhx21_4 (Rg_at hR5 15 13 0 6 (by decide) rfl) (i_nle c7) (by decide)
          have h9 : rg 1 6 (i5 15 13) := t_lty 1 6 hhx21_4 (Rg_at hR5 15 13 0 6 (by decide) rfl) (i_nle c7) (by decide)
          refine lv_aload_n hx hb dX8_next_33 rfl (lv_at hl 0 rfl) ?_
          refine e_Vr (As := []) (rest := []) X Y hT hS (m_X8_current hR5) mk_X8_current gm_736 rfl rfl (by decide) hd_X8_current ⟨rfl, rfl⟩ ⟨Nat.le_of_ble_eq_true rfl, Nat.le_of_ble_eq_true rfl⟩ hl.1 rfl (Nat.le_of_ble_eq_true rfl) dX8_next_34 ⟨Nat.zero_le _, Nat.zero_le _⟩ (fun i10 g10 H locs hq hT hS => ?_)
          obtain ⟨hR10, hf10⟩ := hq
          have hF10 := Fr_tr hF5 hf10 (by decide)
          refine lv_iload hx hb dX8_next_37 (lv_at hl 4 rfl) ?_
          refine lv_iload_n hx hb dX8_next_39 rfl (lv_at hl 1 rfl) ?_
          refine e_Vi (As := [.int x21_4, .int a_a]) (rest := []) X Y hT hS (m_X0_shutWorth_65 hR10 x21_4 a_a h8 h2) mk_X0_shutWorth gm_848 rfl rfl (by decide) hd_X0_shutWorth ⟨rfl, rfl⟩ ⟨Nat.le_of_ble_eq_true rfl, Nat.le_of_ble_eq_true rfl⟩ hl.1 rfl (Nat.le_of_ble_eq_true rfl) dX8_next_40 ⟨Nat.zero_le _, Nat.zero_le _⟩ (fun r11 i11 g11 H locs hq hT hS => ?_)
          obtain ⟨hR11, hf11, hr11⟩ := hq
          have hF11 := Fr_tr hF10 hf11 (by decide)
          refine lv_istore (lv' := [(5, .int r11), (0, .ref (h 0)), (1, .int a_a), (2, .int x21_2), (3, .int x21_3), (4, .int x21_4)]) hx hb dX8_next_43 hl (by decide) rfl (fun ls hl => ?_)
          refine lv_iload hx hb dX8_next_45 (lv_at hl 0 rfl) ?_
          refine lv_iload_n hx hb dX8_next_47 rfl (lv_at hl 4 rfl) ?_
          refine lv_icmp_le (tgt := 57) hx hb dX8_next_48 (by decide) (fun c12 => ?_) (fun c12 => ?_)
          ·
            have q12 : r11.toInt ≤ x21_3.toInt := i_le c12
            obtain ⟨x13, ex13⟩ : ∃ y : Int32, y = x21_4 + 1 := ⟨_, rfl⟩
            refine lv_iinc (v := x13) (lv' := [(4, .int x13), (5, .int r11), (0, .ref (h 0)), (1, .int a_a), (2, .int x21_2), (3, .int x21_3)]) hx hb dX8_next_57 hl (k := 5) rfl (by rw [ex13]; rfl) (by decide) rfl (fun ls hl => ?_)
            obtain ⟨hx13, ax13⟩ := rg_add 1 6 ex13 h8 (rg_k (by decide) : rg 1 1 1) (by decide)
            replace ax13 : x13.toInt = x21_4.toInt + 1 := ax13
            refine lv_goto (tgt := 21) hx hb dX8_next_60 (by decide) ?_
            exact ih6_ x21_2 x21_3 x13 i11 g11 _ _ _ hhx21_2 hhx21_3 (rg_w hx13 (by decide) : rg 0 6 x13) hR11 hF11 hT hS (lv_sub hl [2, 3, 4, 5, 0] rfl) (m_up ax13 hx13 (by decide) hm6_)
          ·
            have q12 : x21_3.toInt < r11.toInt := i_nle c12
            have h14 : rg (-1) 59 x21_3 := t_ltx (-1) 59 hhx21_3 hr11 (i_nle c12) (by decide)
            have h15 : rg 0 60 r11 := t_lty 0 60 hhx21_3 hr11 (i_nle c12) (by decide)
            refine lv_iload hx hb dX8_next_51 (lv_at hl 0 rfl) ?_
            refine lv_istore_n (lv' := [(3, .int r11), (5, .int r11), (0, .ref (h 0)), (1, .int a_a), (2, .int x21_2), (4, .int x21_4)]) hx hb dX8_next_53 rfl hl (by decide) rfl (fun ls hl => ?_)
            refine lv_iload hx hb dX8_next_54 (lv_at hl 5 rfl) ?_
            refine lv_istore_n (lv' := [(2, .int x21_4), (3, .int r11), (5, .int r11), (0, .ref (h 0)), (1, .int a_a), (4, .int x21_4)]) hx hb dX8_next_56 rfl hl (by decide) rfl (fun ls hl => ?_)
            obtain ⟨x16, ex16⟩ : ∃ y : Int32, y = x21_4 + 1 := ⟨_, rfl⟩
            refine lv_iinc (v := x16) (lv' := [(4, .int x16), (2, .int x21_4), (3, .int r11), (5, .int r11), (0, .ref (h 0)), (1, .int a_a)]) hx hb dX8_next_57 hl (k := 5) rfl (by rw [ex16]; rfl) (by decide) rfl (fun ls hl => ?_)
            obtain ⟨hx16, ax16⟩ := rg_add 1 6 ex16 h8 (rg_k (by decide) : rg 1 1 1) (by decide)
            replace ax16 : x16.toInt = x21_4.toInt + 1 := ax16
            refine lv_goto (tgt := 21) hx hb dX8_next_60 (by decide) ?_
            exact ih6_ x21_4 r11 x16 i11 g11 _ _ _ (rg_w h8 (by decide) : rg (-1) 5 x21_4) (rg_w h15 (by decide) : rg (-1) 60 r11) (rg_w hx16 (by decide) : rg 0 6 x16) hR11 hF11 hT hS (lv_sub hl [4, 5, 1, 2, 0] rfl) (m_up ax16 hx16 (by decide) hm6_)
    exact L21_4 _ ((-1)) ((-1)) (0) i g _ _ _ (rg_w (rg_k (by decide) : rg (-1) (-1) (-1)) (by decide) : rg (-1) 5 (-1)) (rg_w (rg_k (by decide) : rg (-1) (-1) (-1)) (by decide) : rg (-1) 60 (-1)) (rg_w (rg_k (by decide) : rg 0 0 0) (by decide) : rg 0 6 0) hR hF hT hS (lv_sub hl [3, 4, 2, 1, 0] rfl) (Nat.lt_succ_self _)
  ·
    obtain ⟨eh1, rfl⟩ := hq
    rw [(Prod.mk.inj eh1).1, (Prod.mk.inj eh1).2] at hT
    refine lv_if_ne (tgt := 14) hx hb dX8_next_8 (by decide) (fun c17 => (x_ne (rg_k (by decide) : rg 0 0 0) (rg_k (by decide) : rg 0 0 0) (i_ne c17) (by decide)).elim) (fun c17 => ?_)
    refine lv_bipush (v := (-2)) hx hb dX8_next_11 (by decide) ?_
    exact hret (-2) _ _ _ _ _ _ dX8_next_13 hT hS ⟨hR, hF, (rg_w (rg_k (by decide) : rg (-2) (-2) (-2)) (by decide) : rg (-2) 5 (-2))⟩
set_option maxRecDepth 100000 in
set_option maxHeartbeats 4000000 in
theorem m_X8_dull {l : Launch} {D : va_G} {h : Nat → Nat} {cz : Nat → ClassId} {z : EZ} {i : Nat → Nat → Int32} {g : Nat → Nat → Int64} (hR : Rg rA i) (a_a : Int32) : DtI l yX8_dull cX8_dull 4 (some .int) ({ frames := 5, cells := 0, slots := 0, locals := 111 } : Room) D h cz z i g [.ref (h 0), .int a_a] (fun r u => Rg rA u.1 ∧ Fr [0, 65, 66, 67, 68, 69, 70, 71] [] i g u ∧ rg (-2) 255 r) := by
  refine e_I pn_X8_dull (Nat.le_of_ble_eq_true rfl) ?_
  intro p e s m args below meth c ls Q X Y hret hT hl hS
  have hx := X.1
  have hb := X.2.1
  have hl : lv_has ls 4 [(0, .ref (h 0)), (1, .int a_a)] := hl
  have hF : Fr [0, 65, 66, 67, 68, 69, 70, 71] [] i g (i, g) := Fr_rf _ _ _ _
  refine lv_aload_n hx hb dX8_dull_0 rfl (lv_at hl 0 rfl) ?_
  refine r_getr X hT 0 3 15 fk_8_32 rfl rfl (by decide) dX8_dull_1 ?_
  refine lv_iload_n hx hb dX8_dull_4 rfl (lv_at hl 1 rfl) ?_
  refine e_Vi (As := [.int a_a]) (rest := []) X Y hT hS (m_X6_hasYear_15 hR a_a) mk_X6_hasYear gm_731 rfl rfl (by decide) hd_X6_hasYear ⟨rfl, rfl⟩ ⟨Nat.le_of_ble_eq_true rfl, Nat.le_of_ble_eq_true rfl⟩ hl.1 rfl (Nat.le_of_ble_eq_true rfl) dX8_dull_5 ⟨Nat.zero_le _, Nat.zero_le _⟩ (fun r1 i1 g1 H locs hq hT hS => ?_)
  rcases hq with hq | hq
  ·
    obtain ⟨eh1, rfl, hf1_0⟩ := hq
    rw [(Prod.mk.inj eh1).1, (Prod.mk.inj eh1).2] at hT
    have h2 : rg 0 12 a_a := ⟨by have := (rg_top a_a).1; have := hf1_0.1; omega, by have := (rg_top a_a).2; have := hf1_0.2; omega⟩
    refine lv_if_ne (tgt := 14) hx hb dX8_dull_8 (by decide) (fun c3 => ?_) (fun c3 => (x_eq (rg_k (by decide) : rg 1 1 1) (rg_k (by decide) : rg 0 0 0) (i_eq c3) (by decide)).elim)
    refine lv_iconst (v := 0) hx hb dX8_dull_14 (by decide) ?_
    refine lv_istore_n (lv' := [(2, .int 0), (0, .ref (h 0)), (1, .int a_a)]) hx hb dX8_dull_15 rfl hl (by decide) rfl (fun ls hl => ?_)
    refine lv_iconst (v := 0) hx hb dX8_dull_16 (by decide) ?_
    refine lv_istore_n (lv' := [(3, .int 0), (2, .int 0), (0, .ref (h 0)), (1, .int a_a)]) hx hb dX8_dull_17 rfl hl (by decide) rfl (fun ls hl => ?_)
    have L18_4 : ∀ (n6_ : Nat) (x18_2 : Int32) (x18_3 : Int32) (i5 : Nat → Nat → Int32) (g5 : Nat → Nat → Int64) (H : Heap) (locs : List Loc) (ls : Array Slot), rg 0 255 x18_2 → rg 0 6 x18_3 → Rg rA i5 → Fr [0, 65, 66, 67, 68, 69, 70, 71] [] i g (i5, g5) → TH D h cz i5 g5 H → va_S (hA h) s.heap H locs → lv_has ls 4 [(0, .ref (h 0)), (1, .int a_a), (2, .int x18_2), (3, .int x18_3)] → (6 - x18_3.toInt).toNat < n6_ → W p l e ({ frames := 5, cells := 0, slots := 0, locals := 111 } : Room) s m args below meth c H locs 0 0 Q (F0 m 18 ls []) := by
      intro n6_
      induction n6_ with
      | zero => intro x18_2 x18_3 i5 g5 H locs ls hhx18_2 hhx18_3 hR5 hF5 hT hS hl hm6_; exact absurd hm6_ (Nat.not_lt_zero _)
      | succ n6_ ih6_ =>
        intro x18_2 x18_3 i5 g5 H locs ls hhx18_2 hhx18_3 hR5 hF5 hT hS hl hm6_
        refine lv_iload_n hx hb dX8_dull_18 rfl (lv_at hl 3 rfl) ?_
        refine lv_aload_n hx hb dX8_dull_19 rfl (lv_at hl 0 rfl) ?_
        refine r_getr X hT 0 3 15 fk_8_32 rfl rfl (by decide) dX8_dull_20 ?_
        refine r_geti X hT 15 13 fk_8_156 rfl rfl (by decide) dX8_dull_23 ?_
        refine lv_icmp_ge (tgt := 53) hx hb dX8_dull_26 (by decide) (fun c7 => ?_) (fun c7 => ?_)
        ·
          have q7 : (i5 15 13).toInt ≤ x18_3.toInt := i_le c7
          refine lv_iload_n hx hb dX8_dull_53 rfl (lv_at hl 2 rfl) ?_
          exact hret x18_2 _ _ _ _ _ _ dX8_dull_54 hT hS ⟨hR5, hF5, (rg_w hhx18_2 (by decide) : rg (-2) 255 x18_2)⟩
        ·
          have q7 : x18_3.toInt < (i5 15 13).toInt := i_nle c7
          have h8 : rg 0 5 x18_3 := t_ltx 0 5 hhx18_3 (Rg_at hR5 15 13 0 6 (by decide) rfl) (i_nle c7) (by decide)
          have h9 : rg 1 6 (i5 15 13) := t_lty 1 6 hhx18_3 (Rg_at hR5 15 13 0 6 (by decide) rfl) (i_nle c7) (by decide)
          refine lv_aload_n hx hb dX8_dull_29 rfl (lv_at hl 0 rfl) ?_
          refine e_Vr (As := []) (rest := []) X Y hT hS (m_X8_current hR5) mk_X8_current gm_736 rfl rfl (by decide) hd_X8_current ⟨rfl, rfl⟩ ⟨Nat.le_of_ble_eq_true rfl, Nat.le_of_ble_eq_true rfl⟩ hl.1 rfl (Nat.le_of_ble_eq_true rfl) dX8_dull_30 ⟨Nat.zero_le _, Nat.zero_le _⟩ (fun i10 g10 H locs hq hT hS => ?_)
          obtain ⟨hR10, hf10⟩ := hq
          have hF10 := Fr_tr hF5 hf10 (by decide)
          refine lv_iload_n hx hb dX8_dull_33 rfl (lv_at hl 3 rfl) ?_
          refine lv_iload_n hx hb dX8_dull_34 rfl (lv_at hl 1 rfl) ?_
          refine e_Vi (As := [.int x18_3, .int a_a]) (rest := []) X Y hT hS (m_X0_shutWorth_65 hR10 x18_3 a_a h8 h2) mk_X0_shutWorth gm_848 rfl rfl (by decide) hd_X0_shutWorth ⟨rfl, rfl⟩ ⟨Nat.le_of_ble_eq_true rfl, Nat.le_of_ble_eq_true rfl⟩ hl.1 rfl (Nat.le_of_ble_eq_true rfl) dX8_dull_35 ⟨Nat.zero_le _, Nat.zero_le _⟩ (fun r11 i11 g11 H locs hq hT hS => ?_)
          obtain ⟨hR11, hf11, hr11⟩ := hq
          have hF11 := Fr_tr hF10 hf11 (by decide)
          refine lv_if_ne (tgt := 47) hx hb dX8_dull_38 (by decide) (fun c12 => ?_) (fun c12 => ?_)
          ·
            have q12 : ¬ r11.toInt = 0 := i_ne c12
            obtain ⟨x13, ex13⟩ : ∃ y : Int32, y = x18_3 + 1 := ⟨_, rfl⟩
            refine lv_iinc (v := x13) (lv' := [(3, .int x13), (0, .ref (h 0)), (1, .int a_a), (2, .int x18_2)]) hx hb dX8_dull_47 hl (k := 3) rfl (by rw [ex13]; rfl) (by decide) rfl (fun ls hl => ?_)
            obtain ⟨hx13, ax13⟩ := rg_add 1 6 ex13 h8 (rg_k (by decide) : rg 1 1 1) (by decide)
            replace ax13 : x13.toInt = x18_3.toInt + 1 := ax13
            refine lv_goto (tgt := 18) hx hb dX8_dull_50 (by decide) ?_
            exact ih6_ x18_2 x13 i11 g11 _ _ _ hhx18_2 (rg_w hx13 (by decide) : rg 0 6 x13) hR11 hF11 hT hS (lv_sub hl [1, 2, 3, 0] rfl) (m_up ax13 hx13 (by decide) hm6_)
          ·
            have q12 : r11.toInt = 0 := i_eq c12
            have h14 : rg 0 0 r11 := t_eqx 0 0 hr11 (rg_k (by decide) : rg 0 0 0) (i_eq c12) (by decide)
            refine lv_iload_n hx hb dX8_dull_41 rfl (lv_at hl 2 rfl) ?_
            refine lv_iconst (v := 1) hx hb dX8_dull_42 (by decide) ?_
            refine lv_iload_n hx hb dX8_dull_43 rfl (lv_at hl 3 rfl) ?_
            refine q_ishl hx hb dX8_dull_44 (fun x15 ex15 => ?_)
            have h16 : rg 1 32 x15 := rg_shl1 ex15 h8 (by decide)
            refine q_ior hx hb dX8_dull_45 (fun x17 ex17 => ?_)
            have h18 : rg 0 255 x17 := rg_or8 ex17 hhx18_2 h16 (by decide)
            refine lv_istore_n (lv' := [(2, .int x17), (0, .ref (h 0)), (1, .int a_a), (3, .int x18_3)]) hx hb dX8_dull_46 rfl hl (by decide) rfl (fun ls hl => ?_)
            obtain ⟨x19, ex19⟩ : ∃ y : Int32, y = x18_3 + 1 := ⟨_, rfl⟩
            refine lv_iinc (v := x19) (lv' := [(3, .int x19), (2, .int x17), (0, .ref (h 0)), (1, .int a_a)]) hx hb dX8_dull_47 hl (k := 3) rfl (by rw [ex19]; rfl) (by decide) rfl (fun ls hl => ?_)
            obtain ⟨hx19, ax19⟩ := rg_add 1 6 ex19 h8 (rg_k (by decide) : rg 1 1 1) (by decide)
            replace ax19 : x19.toInt = x18_3.toInt + 1 := ax19
            refine lv_goto (tgt := 18) hx hb dX8_dull_50 (by decide) ?_
            exact ih6_ x17 x19 i11 g11 _ _ _ h18 (rg_w hx19 (by decide) : rg 0 6 x19) hR11 hF11 hT hS (lv_sub hl [2, 3, 1, 0] rfl) (m_up ax19 hx19 (by decide) hm6_)
    exact L18_4 _ (0) (0) i g _ _ _ (rg_w (rg_k (by decide) : rg 0 0 0) (by decide) : rg 0 255 0) (rg_w (rg_k (by decide) : rg 0 0 0) (by decide) : rg 0 6 0) hR hF hT hS (lv_sub hl [2, 3, 1, 0] rfl) (Nat.lt_succ_self _)
  ·
    obtain ⟨eh1, rfl⟩ := hq
    rw [(Prod.mk.inj eh1).1, (Prod.mk.inj eh1).2] at hT
    refine lv_if_ne (tgt := 14) hx hb dX8_dull_8 (by decide) (fun c20 => (x_ne (rg_k (by decide) : rg 0 0 0) (rg_k (by decide) : rg 0 0 0) (i_ne c20) (by decide)).elim) (fun c20 => ?_)
    refine lv_bipush (v := (-2)) hx hb dX8_dull_11 (by decide) ?_
    exact hret (-2) _ _ _ _ _ _ dX8_dull_13 hT hS ⟨hR, hF, (rg_w (rg_k (by decide) : rg (-2) (-2) (-2)) (by decide) : rg (-2) 255 (-2))⟩
set_option maxRecDepth 100000 in
set_option maxHeartbeats 4000000 in
theorem m_X8_dies {l : Launch} {D : va_G} {h : Nat → Nat} {cz : Nat → ClassId} {z : EZ} {i : Nat → Nat → Int32} {g : Nat → Nat → Int64} (hR : Rg rA i) (a_a : Int32) : DtI l yX8_dies cX8_dies 3 (some .int) ({ frames := 5, cells := 0, slots := 0, locals := 111 } : Room) D h cz z i g [.ref (h 0), .int a_a] (fun r u => Rg rA u.1 ∧ Fr [0, 65, 66, 67, 68, 69, 70, 71] [] i g u ∧ rg (-2) 12 r) := by
  refine e_I pn_X8_dies (Nat.le_of_ble_eq_true rfl) ?_
  intro p e s m args below meth c ls Q X Y hret hT hl hS
  have hx := X.1
  have hb := X.2.1
  have hl : lv_has ls 3 [(0, .ref (h 0)), (1, .int a_a)] := hl
  have hF : Fr [0, 65, 66, 67, 68, 69, 70, 71] [] i g (i, g) := Fr_rf _ _ _ _
  refine lv_aload_n hx hb dX8_dies_0 rfl (lv_at hl 0 rfl) ?_
  refine r_getr X hT 0 3 15 fk_8_32 rfl rfl (by decide) dX8_dies_1 ?_
  refine lv_iload_n hx hb dX8_dies_4 rfl (lv_at hl 1 rfl) ?_
  refine e_Vi (As := [.int a_a]) (rest := []) X Y hT hS (m_X6_hasPart_15 hR a_a) mk_X6_hasPart gm_669 rfl rfl (by decide) hd_X6_hasPart ⟨rfl, rfl⟩ ⟨Nat.le_of_ble_eq_true rfl, Nat.le_of_ble_eq_true rfl⟩ hl.1 rfl (Nat.le_of_ble_eq_true rfl) dX8_dies_5 ⟨Nat.zero_le _, Nat.zero_le _⟩ (fun r1 i1 g1 H locs hq hT hS => ?_)
  rcases hq with hq | hq
  ·
    obtain ⟨eh1, rfl, hf1_0⟩ := hq
    rw [(Prod.mk.inj eh1).1, (Prod.mk.inj eh1).2] at hT
    have h2 : rg 0 5 a_a := ⟨by have := (rg_top a_a).1; have := hf1_0.1; omega, by have := (rg_top a_a).2; have := hf1_0.2; omega⟩
    refine lv_if_ne (tgt := 14) hx hb dX8_dies_8 (by decide) (fun c3 => ?_) (fun c3 => (x_eq (rg_k (by decide) : rg 1 1 1) (rg_k (by decide) : rg 0 0 0) (i_eq c3) (by decide)).elim)
    refine lv_iconst (v := 0) hx hb dX8_dies_14 (by decide) ?_
    refine lv_istore_n (lv' := [(2, .int 0), (0, .ref (h 0)), (1, .int a_a)]) hx hb dX8_dies_15 rfl hl (by decide) rfl (fun ls hl => ?_)
    have L16_4 : ∀ (n6_ : Nat) (x16_2 : Int32) (i5 : Nat → Nat → Int32) (g5 : Nat → Nat → Int64) (H : Heap) (locs : List Loc) (ls : Array Slot), rg 0 13 x16_2 → Rg rA i5 → Fr [0, 65, 66, 67, 68, 69, 70, 71] [] i g (i5, g5) → TH D h cz i5 g5 H → va_S (hA h) s.heap H locs → lv_has ls 3 [(0, .ref (h 0)), (1, .int a_a), (2, .int x16_2)] → (13 - x16_2.toInt).toNat < n6_ → W p l e ({ frames := 5, cells := 0, slots := 0, locals := 111 } : Room) s m args below meth c H locs 0 0 Q (F0 m 16 ls []) := by
      intro n6_
      induction n6_ with
      | zero => intro x16_2 i5 g5 H locs ls hhx16_2 hR5 hF5 hT hS hl hm6_; exact absurd hm6_ (Nat.not_lt_zero _)
      | succ n6_ ih6_ =>
        intro x16_2 i5 g5 H locs ls hhx16_2 hR5 hF5 hT hS hl hm6_
        refine lv_iload_n hx hb dX8_dies_16 rfl (lv_at hl 2 rfl) ?_
        refine lv_aload_n hx hb dX8_dies_17 rfl (lv_at hl 0 rfl) ?_
        refine r_getr X hT 0 3 15 fk_8_32 rfl rfl (by decide) dX8_dies_18 ?_
        refine r_geti X hT 15 10 fk_8_168 rfl rfl (by decide) dX8_dies_21 ?_
        refine lv_icmp_gt (tgt := 47) hx hb dX8_dies_24 (by decide) (fun c7 => ?_) (fun c7 => ?_)
        ·
          have q7 : (i5 15 10).toInt < x16_2.toInt := i_lt c7
          refine lv_iconst (v := (-1)) hx hb dX8_dies_47 (by decide) ?_
          exact hret (-1) _ _ _ _ _ _ dX8_dies_48 hT hS ⟨hR5, hF5, (rg_w (rg_k (by decide) : rg (-1) (-1) (-1)) (by decide) : rg (-2) 12 (-1))⟩
        ·
          have q7 : x16_2.toInt ≤ (i5 15 10).toInt := i_nlt c7
          have h8 : rg 0 12 x16_2 := t_lex 0 12 hhx16_2 (Rg_at hR5 15 10 (-1) 12 (by decide) rfl) (i_nlt c7) (by decide)
          have h9 : rg 0 12 (i5 15 10) := t_ley 0 12 hhx16_2 (Rg_at hR5 15 10 (-1) 12 (by decide) rfl) (i_nlt c7) (by decide)
          refine lv_aload_n hx hb dX8_dies_27 rfl (lv_at hl 0 rfl) ?_
          refine e_Vr (As := []) (rest := []) X Y hT hS (m_X8_current hR5) mk_X8_current gm_736 rfl rfl (by decide) hd_X8_current ⟨rfl, rfl⟩ ⟨Nat.le_of_ble_eq_true rfl, Nat.le_of_ble_eq_true rfl⟩ hl.1 rfl (Nat.le_of_ble_eq_true rfl) dX8_dies_28 ⟨Nat.zero_le _, Nat.zero_le _⟩ (fun i10 g10 H locs hq hT hS => ?_)
          obtain ⟨hR10, hf10⟩ := hq
          have hF10 := Fr_tr hF5 hf10 (by decide)
          refine lv_iload_n hx hb dX8_dies_31 rfl (lv_at hl 1 rfl) ?_
          refine lv_iload_n hx hb dX8_dies_32 rfl (lv_at hl 2 rfl) ?_
          refine e_Vi (As := [.int a_a, .int x16_2]) (rest := []) X Y hT hS (m_X0_shutWorth_65 hR10 a_a x16_2 h2 h8) mk_X0_shutWorth gm_848 rfl rfl (by decide) hd_X0_shutWorth ⟨rfl, rfl⟩ ⟨Nat.le_of_ble_eq_true rfl, Nat.le_of_ble_eq_true rfl⟩ hl.1 rfl (Nat.le_of_ble_eq_true rfl) dX8_dies_33 ⟨Nat.zero_le _, Nat.zero_le _⟩ (fun r11 i11 g11 H locs hq hT hS => ?_)
          obtain ⟨hR11, hf11, hr11⟩ := hq
          have hF11 := Fr_tr hF10 hf11 (by decide)
          refine lv_if_ne (tgt := 41) hx hb dX8_dies_36 (by decide) (fun c12 => ?_) (fun c12 => ?_)
          ·
            have q12 : ¬ r11.toInt = 0 := i_ne c12
            obtain ⟨x13, ex13⟩ : ∃ y : Int32, y = x16_2 + 1 := ⟨_, rfl⟩
            refine lv_iinc (v := x13) (lv' := [(2, .int x13), (0, .ref (h 0)), (1, .int a_a)]) hx hb dX8_dies_41 hl (k := 2) rfl (by rw [ex13]; rfl) (by decide) rfl (fun ls hl => ?_)
            obtain ⟨hx13, ax13⟩ := rg_add 1 13 ex13 h8 (rg_k (by decide) : rg 1 1 1) (by decide)
            replace ax13 : x13.toInt = x16_2.toInt + 1 := ax13
            refine lv_goto (tgt := 16) hx hb dX8_dies_44 (by decide) ?_
            exact ih6_ x13 i11 g11 _ _ _ (rg_w hx13 (by decide) : rg 0 13 x13) hR11 hF11 hT hS (lv_sub hl [1, 2, 0] rfl) (m_up ax13 hx13 (by decide) hm6_)
          ·
            have q12 : r11.toInt = 0 := i_eq c12
            have h14 : rg 0 0 r11 := t_eqx 0 0 hr11 (rg_k (by decide) : rg 0 0 0) (i_eq c12) (by decide)
            refine lv_iload_n hx hb dX8_dies_39 rfl (lv_at hl 2 rfl) ?_
            exact hret x16_2 _ _ _ _ _ _ dX8_dies_40 hT hS ⟨hR11, hF11, (rg_w h8 (by decide) : rg (-2) 12 x16_2)⟩
    exact L16_4 _ (0) i g _ _ _ (rg_w (rg_k (by decide) : rg 0 0 0) (by decide) : rg 0 13 0) hR hF hT hS (lv_sub hl [1, 2, 0] rfl) (Nat.lt_succ_self _)
  ·
    obtain ⟨eh1, rfl⟩ := hq
    rw [(Prod.mk.inj eh1).1, (Prod.mk.inj eh1).2] at hT
    refine lv_if_ne (tgt := 14) hx hb dX8_dies_8 (by decide) (fun c15 => (x_ne (rg_k (by decide) : rg 0 0 0) (rg_k (by decide) : rg 0 0 0) (i_ne c15) (by decide)).elim) (fun c15 => ?_)
    refine lv_bipush (v := (-2)) hx hb dX8_dies_11 (by decide) ?_
    exact hret (-2) _ _ _ _ _ _ dX8_dies_13 hT hS ⟨hR, hF, (rg_w (rg_k (by decide) : rg (-2) (-2) (-2)) (by decide) : rg (-2) 12 (-2))⟩
set_option maxRecDepth 100000 in
set_option maxHeartbeats 4000000 in
theorem m_X8_ages {l : Launch} {D : va_G} {h : Nat → Nat} {cz : Nat → ClassId} {z : EZ} {i : Nat → Nat → Int32} {g : Nat → Nat → Int64} (hR : Rg rA i) (a_a : Int32) : DtI l yX8_ages cX8_ages 2 (some .int) ({ frames := 5, cells := 0, slots := 0, locals := 111 } : Room) D h cz z i g [.ref (h 0), .int a_a] (fun r u => Rg rA u.1 ∧ Fr [0, 65, 66, 67, 68, 69, 70, 71] [] i g u ∧ rg (-100) 99 r) := by
  refine e_I pn_X8_ages (Nat.le_of_ble_eq_true rfl) ?_
  intro p e s m args below meth c ls Q X Y hret hT hl hS
  have hx := X.1
  have hb := X.2.1
  have hl : lv_has ls 2 [(0, .ref (h 0)), (1, .int a_a)] := hl
  have hF : Fr [0, 65, 66, 67, 68, 69, 70, 71] [] i g (i, g) := Fr_rf _ _ _ _
  refine lv_aload_n hx hb dX8_ages_0 rfl (lv_at hl 0 rfl) ?_
  refine r_getr X hT 0 3 15 fk_8_32 rfl rfl (by decide) dX8_ages_1 ?_
  refine lv_iload_n hx hb dX8_ages_4 rfl (lv_at hl 1 rfl) ?_
  refine e_Vi (As := [.int a_a]) (rest := []) X Y hT hS (m_X6_hasPart_15 hR a_a) mk_X6_hasPart gm_669 rfl rfl (by decide) hd_X6_hasPart ⟨rfl, rfl⟩ ⟨Nat.le_of_ble_eq_true rfl, Nat.le_of_ble_eq_true rfl⟩ hl.1 rfl (Nat.le_of_ble_eq_true rfl) dX8_ages_5 ⟨Nat.zero_le _, Nat.zero_le _⟩ (fun r1 i1 g1 H locs hq hT hS => ?_)
  rcases hq with hq | hq
  ·
    obtain ⟨eh1, rfl, hf1_0⟩ := hq
    rw [(Prod.mk.inj eh1).1, (Prod.mk.inj eh1).2] at hT
    have h2 : rg 0 5 a_a := ⟨by have := (rg_top a_a).1; have := hf1_0.1; omega, by have := (rg_top a_a).2; have := hf1_0.2; omega⟩
    refine lv_if_ne (tgt := 14) hx hb dX8_ages_8 (by decide) (fun c3 => ?_) (fun c3 => (x_eq (rg_k (by decide) : rg 1 1 1) (rg_k (by decide) : rg 0 0 0) (i_eq c3) (by decide)).elim)
    refine lv_aload_n hx hb dX8_ages_14 rfl (lv_at hl 0 rfl) ?_
    refine e_Vr (As := []) (rest := []) X Y hT hS (m_X8_current hR) mk_X8_current gm_736 rfl rfl (by decide) hd_X8_current ⟨rfl, rfl⟩ ⟨Nat.le_of_ble_eq_true rfl, Nat.le_of_ble_eq_true rfl⟩ hl.1 rfl (Nat.le_of_ble_eq_true rfl) dX8_ages_15 ⟨Nat.zero_le _, Nat.zero_le _⟩ (fun i4 g4 H locs hq hT hS => ?_)
    obtain ⟨hR4, hf4⟩ := hq
    have hF4 := Fr_tr hF hf4 (by decide)
    refine lv_iload_n hx hb dX8_ages_18 rfl (lv_at hl 1 rfl) ?_
    refine lv_aload_n hx hb dX8_ages_19 rfl (lv_at hl 0 rfl) ?_
    refine r_getr X hT 0 3 15 fk_8_32 rfl rfl (by decide) dX8_ages_20 ?_
    refine r_geti X hT 15 10 fk_8_168 rfl rfl (by decide) dX8_ages_23 ?_
    refine e_Vi (As := [.int a_a, .int (i4 15 10)]) (rest := []) X Y hT hS (m_X0_stiffness_65 hR4 a_a (i4 15 10) h2) mk_X0_stiffness gm_769 rfl rfl (by decide) hd_X0_stiffness ⟨rfl, rfl⟩ ⟨Nat.le_of_ble_eq_true rfl, Nat.le_of_ble_eq_true rfl⟩ hl.1 rfl (Nat.le_of_ble_eq_true rfl) dX8_ages_26 ⟨Nat.zero_le _, Nat.zero_le _⟩ (fun r5 i5 g5 H locs hq hT hS => ?_)
    obtain ⟨hR5, hf5, hr5⟩ := hq
    have hF5 := Fr_tr hF4 hf5 (by decide)
    refine lv_aload_n hx hb dX8_ages_29 rfl (lv_at hl 0 rfl) ?_
    refine r_getr X hT 0 3 15 fk_8_32 rfl rfl (by decide) dX8_ages_30 ?_
    refine r_getr X hT 15 2 18 fk_8_138 rfl rfl (by decide) dX8_ages_33 ?_
    refine lv_iload_n hx hb dX8_ages_36 rfl (lv_at hl 1 rfl) ?_
    refine r_iald X hT 18 rfl (by decide) (v_in h2 (by decide)) dX8_ages_37 ?_
    refine q_isub hx hb dX8_ages_38 (fun x6 ex6 => ?_)
    obtain ⟨hx6, ax6⟩ := rg_sub (-60) 99 ex6 hr5 (Rg_at hR5 18 a_a.toNatClampNeg 0 60 (v_lt (v_in h2 (by decide))) rfl) (by decide)
    replace ax6 : x6.toInt = r5.toInt - (i5 18 a_a.toNatClampNeg).toInt := ax6
    exact hret x6 _ _ _ _ _ _ dX8_ages_39 hT hS ⟨hR5, hF5, (rg_w hx6 (by decide) : rg (-100) 99 x6)⟩
  ·
    obtain ⟨eh1, rfl⟩ := hq
    rw [(Prod.mk.inj eh1).1, (Prod.mk.inj eh1).2] at hT
    refine lv_if_ne (tgt := 14) hx hb dX8_ages_8 (by decide) (fun c7 => (x_ne (rg_k (by decide) : rg 0 0 0) (rg_k (by decide) : rg 0 0 0) (i_ne c7) (by decide)).elim) (fun c7 => ?_)
    refine lv_bipush (v := (-100)) hx hb dX8_ages_11 (by decide) ?_
    exact hret (-100) _ _ _ _ _ _ dX8_ages_13 hT hS ⟨hR, hF, (rg_w (rg_k (by decide) : rg (-100) (-100) (-100)) (by decide) : rg (-100) 99 (-100))⟩
set_option maxRecDepth 100000 in
set_option maxHeartbeats 4000000 in
theorem m_X8_cut {l : Launch} {D : va_G} {h : Nat → Nat} {cz : Nat → ClassId} {z : EZ} {i : Nat → Nat → Int32} {g : Nat → Nat → Int64} (hR : Rg rA i) (a_a : Int32) : DtI l yX8_cut cX8_cut 5 (some .int) ({ frames := 5, cells := 0, slots := 0, locals := 110 } : Room) D h cz z i g [.ref (h 0), .int a_a] (fun r u => Rg rA u.1 ∧ Fr [0, 65, 66, 67, 68, 69, 70] [] i g u) := by
  refine e_I pn_X8_cut (Nat.le_of_ble_eq_true rfl) ?_
  intro p e s m args below meth c ls Q X Y hret hT hl hS
  have hx := X.1
  have hb := X.2.1
  have hl : lv_has ls 5 [(0, .ref (h 0)), (1, .int a_a)] := hl
  have hF : Fr [0, 65, 66, 67, 68, 69, 70] [] i g (i, g) := Fr_rf _ _ _ _
  refine lv_aload_n hx hb dX8_cut_0 rfl (lv_at hl 0 rfl) ?_
  refine r_getr X hT 0 3 15 fk_8_32 rfl rfl (by decide) dX8_cut_1 ?_
  refine lv_iload_n hx hb dX8_cut_4 rfl (lv_at hl 1 rfl) ?_
  refine e_Vi (As := [.int a_a]) (rest := []) X Y hT hS (m_X6_hasYear_15 hR a_a) mk_X6_hasYear gm_731 rfl rfl (by decide) hd_X6_hasYear ⟨rfl, rfl⟩ ⟨Nat.le_of_ble_eq_true rfl, Nat.le_of_ble_eq_true rfl⟩ hl.1 rfl (Nat.le_of_ble_eq_true rfl) dX8_cut_5 ⟨Nat.zero_le _, Nat.zero_le _⟩ (fun r1 i1 g1 H locs hq hT hS => ?_)
  rcases hq with hq | hq
  ·
    obtain ⟨eh1, rfl, hf1_0⟩ := hq
    rw [(Prod.mk.inj eh1).1, (Prod.mk.inj eh1).2] at hT
    have h2 : rg 0 12 a_a := ⟨by have := (rg_top a_a).1; have := hf1_0.1; omega, by have := (rg_top a_a).2; have := hf1_0.2; omega⟩
    refine lv_if_ne (tgt := 14) hx hb dX8_cut_8 (by decide) (fun c3 => ?_) (fun c3 => (x_eq (rg_k (by decide) : rg 1 1 1) (rg_k (by decide) : rg 0 0 0) (i_eq c3) (by decide)).elim)
    refine lv_aload_n hx hb dX8_cut_14 rfl (lv_at hl 0 rfl) ?_
    refine e_Vr (As := []) (rest := []) X Y hT hS (m_X8_current hR) mk_X8_current gm_736 rfl rfl (by decide) hd_X8_current ⟨rfl, rfl⟩ ⟨Nat.le_of_ble_eq_true rfl, Nat.le_of_ble_eq_true rfl⟩ hl.1 rfl (Nat.le_of_ble_eq_true rfl) dX8_cut_15 ⟨Nat.zero_le _, Nat.zero_le _⟩ (fun i4 g4 H locs hq hT hS => ?_)
    obtain ⟨hR4, hf4⟩ := hq
    have hF4 := Fr_tr hF hf4 (by decide)
    refine lv_iload_n hx hb dX8_cut_18 rfl (lv_at hl 1 rfl) ?_
    refine e_Vi (As := [.int a_a]) (rest := []) X Y hT hS (m_X0_openIn_65 hR4 a_a) mk_X0_openIn gm_799 rfl rfl (by decide) hd_X0_openIn ⟨rfl, rfl⟩ ⟨Nat.le_of_ble_eq_true rfl, Nat.le_of_ble_eq_true rfl⟩ hl.1 rfl (Nat.le_of_ble_eq_true rfl) dX8_cut_19 ⟨Nat.zero_le _, Nat.zero_le _⟩ (fun r5 i5 g5 H locs hq hT hS => ?_)
    have eh5 := hq
    rw [(Prod.mk.inj eh5).1, (Prod.mk.inj eh5).2] at hT
    refine lv_istore_n (lv' := [(2, .int r5), (0, .ref (h 0)), (1, .int a_a)]) hx hb dX8_cut_22 rfl hl (by decide) rfl (fun ls hl => ?_)
    refine lv_iconst (v := 0) hx hb dX8_cut_23 (by decide) ?_
    refine lv_istore_n (lv' := [(3, .int 0), (2, .int r5), (0, .ref (h 0)), (1, .int a_a)]) hx hb dX8_cut_24 rfl hl (by decide) rfl (fun ls hl => ?_)
    refine lv_iconst (v := 0) hx hb dX8_cut_25 (by decide) ?_
    refine lv_istore (lv' := [(4, .int 0), (3, .int 0), (2, .int r5), (0, .ref (h 0)), (1, .int a_a)]) hx hb dX8_cut_26 hl (by decide) rfl (fun ls hl => ?_)
    have L28_6 : ∀ (n7_ : Nat) (x28_3 : Int32) (x28_4 : Int32) (H : Heap) (locs : List Loc) (ls : Array Slot), rg 0 10 x28_4 → TH D h cz i4 g4 H → va_S (hA h) s.heap H locs → lv_has ls 5 [(0, .ref (h 0)), (2, .int r5), (3, .int x28_3), (4, .int x28_4)] → (10 - x28_4.toInt).toNat < n7_ → W p l e ({ frames := 5, cells := 0, slots := 0, locals := 110 } : Room) s m args below meth c H locs 0 0 Q (F0 m 28 ls []) := by
      intro n7_
      induction n7_ with
      | zero => intro x28_3 x28_4 H locs ls hhx28_4 hT hS hl hm7_; exact absurd hm7_ (Nat.not_lt_zero _)
      | succ n7_ ih7_ =>
        intro x28_3 x28_4 H locs ls hhx28_4 hT hS hl hm7_
        refine lv_iload hx hb dX8_cut_28 (lv_at hl 3 rfl) ?_
        refine lv_aload_n hx hb dX8_cut_30 rfl (lv_at hl 0 rfl) ?_
        refine r_getr X hT 0 3 15 fk_8_32 rfl rfl (by decide) dX8_cut_31 ?_
        refine r_geti X hT 15 14 fk_8_176 rfl rfl (by decide) dX8_cut_34 ?_
        refine lv_icmp_ge (tgt := 87) hx hb dX8_cut_37 (by decide) (fun c8 => ?_) (fun c8 => ?_)
        ·
          have q8 : (i4 15 14).toInt ≤ x28_4.toInt := i_le c8
          refine lv_iload_n hx hb dX8_cut_87 rfl (lv_at hl 2 rfl) ?_
          exact hret x28_3 _ _ _ _ _ _ dX8_cut_88 hT hS ⟨hR4, hF4⟩
        ·
          have q8 : x28_4.toInt < (i4 15 14).toInt := i_nle c8
          have h9 : rg 0 9 x28_4 := t_ltx 0 9 hhx28_4 (Rg_at hR4 15 14 0 10 (by decide) rfl) (i_nle c8) (by decide)
          have h10 : rg 1 10 (i4 15 14) := t_lty 1 10 hhx28_4 (Rg_at hR4 15 14 0 10 (by decide) rfl) (i_nle c8) (by decide)
          refine lv_iload_n hx hb dX8_cut_40 rfl (lv_at hl 1 rfl) ?_
          refine lv_aload_n hx hb dX8_cut_41 rfl (lv_at hl 0 rfl) ?_
          refine r_getr X hT 0 3 15 fk_8_32 rfl rfl (by decide) dX8_cut_42 ?_
          refine r_getr X hT 15 3 19 fk_8_228 rfl rfl (by decide) dX8_cut_45 ?_
          refine lv_iload hx hb dX8_cut_48 (lv_at hl 3 rfl) ?_
          refine r_iald X hT 19 rfl (by decide) (v_in h9 (by decide)) dX8_cut_50 ?_
          refine e_Si (As := [.int r5, .int (i4 19 x28_4.toNatClampNeg)]) (rest := []) X Y hT hS (m_X8_hasBit r5 (i4 19 x28_4.toNatClampNeg)) sk_X8_hasBit gm_685 hd_X8_hasBit ⟨rfl, rfl⟩ ⟨Nat.le_of_ble_eq_true rfl, Nat.le_of_ble_eq_true rfl⟩ hl.1 rfl (Nat.le_of_ble_eq_true rfl) dX8_cut_51 ⟨Nat.zero_le _, Nat.zero_le _⟩ (fun r11 i11 g11 H locs hq hT hS => ?_)
          obtain ⟨eh11, hr11⟩ := hq
          rw [(Prod.mk.inj eh11).1, (Prod.mk.inj eh11).2] at hT
          refine lv_if_ne (tgt := 74) hx hb dX8_cut_54 (by decide) (fun c12 => ?_) (fun c12 => ?_)
          ·
            have q12 : ¬ r11.toInt = 0 := i_ne c12
            have h13 : rg 1 1 r11 := t_nelo 1 hr11 (rg_k (by decide) : rg 0 0 0) (i_ne c12) (by decide)
            refine lv_iload_n hx hb dX8_cut_74 rfl (lv_at hl 2 rfl) ?_
            refine lv_iconst (v := 1) hx hb dX8_cut_75 (by decide) ?_
            refine lv_iload hx hb dX8_cut_76 (lv_at hl 3 rfl) ?_
            refine q_ishl hx hb dX8_cut_78 (fun x14 ex14 => ?_)
            have h15 : rg 1 512 x14 := rg_shl1 ex14 h9 (by decide)
            refine q_ior hx hb dX8_cut_79 (fun x16 ex16 => ?_)
            refine lv_istore_n (lv' := [(3, .int x16), (0, .ref (h 0)), (2, .int r5), (4, .int x28_4)]) hx hb dX8_cut_80 rfl hl (by decide) rfl (fun ls hl => ?_)
            obtain ⟨x17, ex17⟩ : ∃ y : Int32, y = x28_4 + 1 := ⟨_, rfl⟩
            refine lv_iinc (v := x17) (lv' := [(4, .int x17), (3, .int x16), (0, .ref (h 0)), (2, .int r5)]) hx hb dX8_cut_81 hl (k := 3) rfl (by rw [ex17]; rfl) (by decide) rfl (fun ls hl => ?_)
            obtain ⟨hx17, ax17⟩ := rg_add 1 10 ex17 h9 (rg_k (by decide) : rg 1 1 1) (by decide)
            replace ax17 : x17.toInt = x28_4.toInt + 1 := ax17
            refine lv_goto (tgt := 28) hx hb dX8_cut_84 (by decide) ?_
            exact ih7_ x16 x17 _ _ _ (rg_w hx17 (by decide) : rg 0 10 x17) hT hS (lv_sub hl [2, 3, 1, 0] rfl) (m_up ax17 hx17 (by decide) hm7_)
          ·
            have q12 : r11.toInt = 0 := i_eq c12
            have h18 : rg 0 0 r11 := t_eqx 0 0 hr11 (rg_k (by decide) : rg 0 0 0) (i_eq c12) (by decide)
            refine lv_iload_n hx hb dX8_cut_57 rfl (lv_at hl 1 rfl) ?_
            refine lv_aload_n hx hb dX8_cut_58 rfl (lv_at hl 0 rfl) ?_
            refine r_getr X hT 0 3 15 fk_8_32 rfl rfl (by decide) dX8_cut_59 ?_
            refine r_getr X hT 15 4 20 fk_8_231 rfl rfl (by decide) dX8_cut_62 ?_
            refine lv_iload hx hb dX8_cut_65 (lv_at hl 3 rfl) ?_
            refine r_iald X hT 20 rfl (by decide) (v_in h9 (by decide)) dX8_cut_67 ?_
            refine e_Si (As := [.int r5, .int (i4 20 x28_4.toNatClampNeg)]) (rest := []) X Y hT hS (m_X8_hasBit r5 (i4 20 x28_4.toNatClampNeg)) sk_X8_hasBit gm_685 hd_X8_hasBit ⟨rfl, rfl⟩ ⟨Nat.le_of_ble_eq_true rfl, Nat.le_of_ble_eq_true rfl⟩ hl.1 rfl (Nat.le_of_ble_eq_true rfl) dX8_cut_68 ⟨Nat.zero_le _, Nat.zero_le _⟩ (fun r19 i19 g19 H locs hq hT hS => ?_)
            obtain ⟨eh19, hr19⟩ := hq
            rw [(Prod.mk.inj eh19).1, (Prod.mk.inj eh19).2] at hT
            refine lv_if_eq (tgt := 81) hx hb dX8_cut_71 (by decide) (fun c20 => ?_) (fun c20 => ?_)
            ·
              have q20 : r19.toInt = 0 := i_eq c20
              have h21 : rg 0 0 r19 := t_eqx 0 0 hr19 (rg_k (by decide) : rg 0 0 0) (i_eq c20) (by decide)
              obtain ⟨x22, ex22⟩ : ∃ y : Int32, y = x28_4 + 1 := ⟨_, rfl⟩
              refine lv_iinc (v := x22) (lv' := [(4, .int x22), (0, .ref (h 0)), (2, .int r5), (3, .int x28_3)]) hx hb dX8_cut_81 hl (k := 3) rfl (by rw [ex22]; rfl) (by decide) rfl (fun ls hl => ?_)
              obtain ⟨hx22, ax22⟩ := rg_add 1 10 ex22 h9 (rg_k (by decide) : rg 1 1 1) (by decide)
              replace ax22 : x22.toInt = x28_4.toInt + 1 := ax22
              refine lv_goto (tgt := 28) hx hb dX8_cut_84 (by decide) ?_
              exact ih7_ x28_3 x22 _ _ _ (rg_w hx22 (by decide) : rg 0 10 x22) hT hS (lv_sub hl [1, 2, 3, 0] rfl) (m_up ax22 hx22 (by decide) hm7_)
            ·
              have q20 : ¬ r19.toInt = 0 := i_ne c20
              have h23 : rg 1 1 r19 := t_nelo 1 hr19 (rg_k (by decide) : rg 0 0 0) (i_ne c20) (by decide)
              refine lv_iload_n hx hb dX8_cut_74 rfl (lv_at hl 2 rfl) ?_
              refine lv_iconst (v := 1) hx hb dX8_cut_75 (by decide) ?_
              refine lv_iload hx hb dX8_cut_76 (lv_at hl 3 rfl) ?_
              refine q_ishl hx hb dX8_cut_78 (fun x24 ex24 => ?_)
              have h25 : rg 1 512 x24 := rg_shl1 ex24 h9 (by decide)
              refine q_ior hx hb dX8_cut_79 (fun x26 ex26 => ?_)
              refine lv_istore_n (lv' := [(3, .int x26), (0, .ref (h 0)), (2, .int r5), (4, .int x28_4)]) hx hb dX8_cut_80 rfl hl (by decide) rfl (fun ls hl => ?_)
              obtain ⟨x27, ex27⟩ : ∃ y : Int32, y = x28_4 + 1 := ⟨_, rfl⟩
              refine lv_iinc (v := x27) (lv' := [(4, .int x27), (3, .int x26), (0, .ref (h 0)), (2, .int r5)]) hx hb dX8_cut_81 hl (k := 3) rfl (by rw [ex27]; rfl) (by decide) rfl (fun ls hl => ?_)
              obtain ⟨hx27, ax27⟩ := rg_add 1 10 ex27 h9 (rg_k (by decide) : rg 1 1 1) (by decide)
              replace ax27 : x27.toInt = x28_4.toInt + 1 := ax27
              refine lv_goto (tgt := 28) hx hb dX8_cut_84 (by decide) ?_
              exact ih7_ x26 x27 _ _ _ (rg_w hx27 (by decide) : rg 0 10 x27) hT hS (lv_sub hl [2, 3, 1, 0] rfl) (m_up ax27 hx27 (by decide) hm7_)
    exact L28_6 _ (0) (0) _ _ _ (rg_w (rg_k (by decide) : rg 0 0 0) (by decide) : rg 0 10 0) hT hS (lv_sub hl [3, 2, 1, 0] rfl) (Nat.lt_succ_self _)
  ·
    obtain ⟨eh1, rfl⟩ := hq
    rw [(Prod.mk.inj eh1).1, (Prod.mk.inj eh1).2] at hT
    refine lv_if_ne (tgt := 14) hx hb dX8_cut_8 (by decide) (fun c28 => (x_ne (rg_k (by decide) : rg 0 0 0) (rg_k (by decide) : rg 0 0 0) (i_ne c28) (by decide)).elim) (fun c28 => ?_)
    refine lv_bipush (v := (-2)) hx hb dX8_cut_11 (by decide) ?_
    exact hret (-2) _ _ _ _ _ _ dX8_cut_13 hT hS ⟨hR, hF⟩
set_option maxRecDepth 100000 in
set_option maxHeartbeats 4000000 in
theorem m_X8_opensAnew {l : Launch} {D : va_G} {h : Nat → Nat} {cz : Nat → ClassId} {z : EZ} {i : Nat → Nat → Int32} {g : Nat → Nat → Int64} (hR : Rg rA i) (a_a : Int32) (a_b : Int32) (a_c : Int32) (ha_a : rg 0 5 a_a) : DtI l yX8_opensAnew cX8_opensAnew 4 (some .boolean) ({ frames := 5, cells := 0, slots := 0, locals := 110 } : Room) D h cz z i g [.ref (h 0), .int a_a, .int a_b, .int a_c] (fun r u => Rg rA u.1 ∧ Fr [0, 65, 66, 67, 68, 69, 70] [] i g u ∧ rg 0 1 r) := by
  refine e_Z (fun v u hq => (z01 hq.2.2)) pn_X8_opensAnew (Nat.le_of_ble_eq_true rfl) ?_
  intro p e s m args below meth c ls Q X Y hret hT hl hS
  have hx := X.1
  have hb := X.2.1
  have hl : lv_has ls 4 [(0, .ref (h 0)), (1, .int a_a), (2, .int a_b), (3, .int a_c)] := hl
  have hF : Fr [0, 65, 66, 67, 68, 69, 70] [] i g (i, g) := Fr_rf _ _ _ _
  refine lv_iload_n hx hb dX8_opensAnew_0 rfl (lv_at hl 3 rfl) ?_
  refine lv_iload_n hx hb dX8_opensAnew_1 rfl (lv_at hl 1 rfl) ?_
  refine e_Si (As := [.int a_c, .int a_a]) (rest := []) X Y hT hS (m_X8_hasBit a_c a_a) sk_X8_hasBit gm_685 hd_X8_hasBit ⟨rfl, rfl⟩ ⟨Nat.le_of_ble_eq_true rfl, Nat.le_of_ble_eq_true rfl⟩ hl.1 rfl (Nat.le_of_ble_eq_true rfl) dX8_opensAnew_2 ⟨Nat.zero_le _, Nat.zero_le _⟩ (fun r1 i1 g1 H locs hq hT hS => ?_)
  obtain ⟨eh1, hr1⟩ := hq
  rw [(Prod.mk.inj eh1).1, (Prod.mk.inj eh1).2] at hT
  refine lv_if_ne (tgt := 38) hx hb dX8_opensAnew_5 (by decide) (fun c2 => ?_) (fun c2 => ?_)
  ·
    have q2 : ¬ r1.toInt = 0 := i_ne c2
    have h3 : rg 1 1 r1 := t_nelo 1 hr1 (rg_k (by decide) : rg 0 0 0) (i_ne c2) (by decide)
    refine lv_iconst (v := 0) hx hb dX8_opensAnew_38 (by decide) ?_
    exact hret 0 _ _ _ _ _ _ dX8_opensAnew_39 hT hS ⟨hR, hF, (rg_w (rg_k (by decide) : rg 0 0 0) (by decide) : rg 0 1 0)⟩
  ·
    have q2 : r1.toInt = 0 := i_eq c2
    have h4 : rg 0 0 r1 := t_eqx 0 0 hr1 (rg_k (by decide) : rg 0 0 0) (i_eq c2) (by decide)
    refine lv_aload_n hx hb dX8_opensAnew_8 rfl (lv_at hl 0 rfl) ?_
    refine e_Vr (As := []) (rest := []) X Y hT hS (m_X8_current hR) mk_X8_current gm_736 rfl rfl (by decide) hd_X8_current ⟨rfl, rfl⟩ ⟨Nat.le_of_ble_eq_true rfl, Nat.le_of_ble_eq_true rfl⟩ hl.1 rfl (Nat.le_of_ble_eq_true rfl) dX8_opensAnew_9 ⟨Nat.zero_le _, Nat.zero_le _⟩ (fun i5 g5 H locs hq hT hS => ?_)
    obtain ⟨hR5, hf5⟩ := hq
    have hF5 := Fr_tr hF hf5 (by decide)
    refine lv_iload_n hx hb dX8_opensAnew_12 rfl (lv_at hl 1 rfl) ?_
    refine e_Vi (As := [.int a_a]) (rest := []) X Y hT hS (m_X0_openingYear_65 hR5 a_a ha_a) mk_X0_openingYear gm_807 rfl rfl (by decide) hd_X0_openingYear ⟨rfl, rfl⟩ ⟨Nat.le_of_ble_eq_true rfl, Nat.le_of_ble_eq_true rfl⟩ hl.1 rfl (Nat.le_of_ble_eq_true rfl) dX8_opensAnew_13 ⟨Nat.zero_le _, Nat.zero_le _⟩ (fun r6 i6 g6 H locs hq hT hS => ?_)
    have eh6 := hq
    rw [(Prod.mk.inj eh6).1, (Prod.mk.inj eh6).2] at hT
    refine lv_iload_n hx hb dX8_opensAnew_16 rfl (lv_at hl 2 rfl) ?_
    refine lv_icmp_ne (tgt := 38) hx hb dX8_opensAnew_17 (by decide) (fun c7 => ?_) (fun c7 => ?_)
    ·
      have q7 : ¬ r6.toInt = a_b.toInt := i_ne c7
      refine lv_iconst (v := 0) hx hb dX8_opensAnew_38 (by decide) ?_
      exact hret 0 _ _ _ _ _ _ dX8_opensAnew_39 hT hS ⟨hR5, hF5, (rg_w (rg_k (by decide) : rg 0 0 0) (by decide) : rg 0 1 0)⟩
    ·
      have q7 : r6.toInt = a_b.toInt := i_eq c7
      refine lv_aload_n hx hb dX8_opensAnew_20 rfl (lv_at hl 0 rfl) ?_
      refine e_Vr (As := []) (rest := []) X Y hT hS (m_X8_current hR5) mk_X8_current gm_736 rfl rfl (by decide) hd_X8_current ⟨rfl, rfl⟩ ⟨Nat.le_of_ble_eq_true rfl, Nat.le_of_ble_eq_true rfl⟩ hl.1 rfl (Nat.le_of_ble_eq_true rfl) dX8_opensAnew_21 ⟨Nat.zero_le _, Nat.zero_le _⟩ (fun i8 g8 H locs hq hT hS => ?_)
      obtain ⟨hR8, hf8⟩ := hq
      have hF8 := Fr_tr hF5 hf8 (by decide)
      refine r_geti X hT 65 9 fk_8_205 rfl rfl (by decide) dX8_opensAnew_24 ?_
      refine lv_iload_n hx hb dX8_opensAnew_27 rfl (lv_at hl 1 rfl) ?_
      refine e_Si (As := [.int (i8 65 9), .int a_a]) (rest := []) X Y hT hS (m_X8_hasBit (i8 65 9) a_a) sk_X8_hasBit gm_685 hd_X8_hasBit ⟨rfl, rfl⟩ ⟨Nat.le_of_ble_eq_true rfl, Nat.le_of_ble_eq_true rfl⟩ hl.1 rfl (Nat.le_of_ble_eq_true rfl) dX8_opensAnew_28 ⟨Nat.zero_le _, Nat.zero_le _⟩ (fun r9 i9 g9 H locs hq hT hS => ?_)
      obtain ⟨eh9, hr9⟩ := hq
      rw [(Prod.mk.inj eh9).1, (Prod.mk.inj eh9).2] at hT
      refine lv_if_ne (tgt := 38) hx hb dX8_opensAnew_31 (by decide) (fun c10 => ?_) (fun c10 => ?_)
      ·
        have q10 : ¬ r9.toInt = 0 := i_ne c10
        have h11 : rg 1 1 r9 := t_nelo 1 hr9 (rg_k (by decide) : rg 0 0 0) (i_ne c10) (by decide)
        refine lv_iconst (v := 0) hx hb dX8_opensAnew_38 (by decide) ?_
        exact hret 0 _ _ _ _ _ _ dX8_opensAnew_39 hT hS ⟨hR8, hF8, (rg_w (rg_k (by decide) : rg 0 0 0) (by decide) : rg 0 1 0)⟩
      ·
        have q10 : r9.toInt = 0 := i_eq c10
        have h12 : rg 0 0 r9 := t_eqx 0 0 hr9 (rg_k (by decide) : rg 0 0 0) (i_eq c10) (by decide)
        refine lv_iconst (v := 1) hx hb dX8_opensAnew_34 (by decide) ?_
        refine lv_goto (tgt := 39) hx hb dX8_opensAnew_35 (by decide) ?_
        exact hret 1 _ _ _ _ _ _ dX8_opensAnew_39 hT hS ⟨hR8, hF8, (rg_w (rg_k (by decide) : rg 1 1 1) (by decide) : rg 0 1 1)⟩
