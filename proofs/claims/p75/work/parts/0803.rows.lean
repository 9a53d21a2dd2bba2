set_option maxRecDepth 100000 in
set_option maxHeartbeats 4000000 in
theorem m_X8_openingKnives {l : Launch} {D : va_G} {h : Nat → Nat} {cz : Nat → ClassId} {z : EZ} {i : Nat → Nat → Int32} {g : Nat → Nat → Int64} (hR : Rg rA i) : DtI l yX8_openingKnives cX8_openingKnives 5 (some .int) ({ frames := 6, cells := 0, slots := 0, locals := 133 } : Room) D h cz z i g [.ref (h 0)] (fun r u => Rg rA u.1 ∧ Fr [0, 65, 66, 67, 68, 69, 70] [] i g u) := by
  refine e_I pn_X8_openingKnives (Nat.le_of_ble_eq_true rfl) ?_
  intro p e s m args below meth c ls Q X Y hret hT hl hS
  have hx := X.1
  have hb := X.2.1
  have hl : lv_has ls 5 [(0, .ref (h 0))] := hl
  have hF : Fr [0, 65, 66, 67, 68, 69, 70] [] i g (i, g) := Fr_rf _ _ _ _
  refine lv_iconst (v := 0) hx hb dX8_openingKnives_0 (by decide) ?_
  refine lv_istore_n (lv' := [(1, .int 0), (0, .ref (h 0))]) hx hb dX8_openingKnives_1 rfl hl (by decide) rfl (fun ls hl => ?_)
  refine lv_iconst (v := 0) hx hb dX8_openingKnives_2 (by decide) ?_
  refine lv_istore_n (lv' := [(2, .int 0), (1, .int 0), (0, .ref (h 0))]) hx hb dX8_openingKnives_3 rfl hl (by decide) rfl (fun ls hl => ?_)
  refine lv_iconst (v := 0) hx hb dX8_openingKnives_4 (by decide) ?_
  refine lv_istore_n (lv' := [(3, .int 0), (2, .int 0), (1, .int 0), (0, .ref (h 0))]) hx hb dX8_openingKnives_5 rfl hl (by decide) rfl (fun ls hl => ?_)
  have L6_1 : ∀ (n3_ : Nat) (x6_1 : Int32) (x6_2 : Int32) (x6_3 : Int32) (i2 : Nat → Nat → Int32) (g2 : Nat → Nat → Int64) (H : Heap) (locs : List Loc) (ls : Array Slot), rg 0 255 x6_1 → rg 0 255 x6_2 → rg 0 8 x6_3 → Rg rA i2 → Fr [0, 65, 66, 67, 68, 69, 70] [] i g (i2, g2) → TH D h cz i2 g2 H → va_S (hA h) s.heap H locs → lv_has ls 5 [(0, .ref (h 0)), (1, .int x6_1), (2, .int x6_2), (3, .int x6_3)] → (8 - x6_3.toInt).toNat < n3_ → W p l e ({ frames := 6, cells := 0, slots := 0, locals := 133 } : Room) s m args below meth c H locs 0 0 Q (F0 m 6 ls []) := by
    intro n3_
    induction n3_ with
    | zero => intro x6_1 x6_2 x6_3 i2 g2 H locs ls hhx6_1 hhx6_2 hhx6_3 hR2 hF2 hT hS hl hm3_; exact absurd hm3_ (Nat.not_lt_zero _)
    | succ n3_ ih3_ =>
      intro x6_1 x6_2 x6_3 i2 g2 H locs ls hhx6_1 hhx6_2 hhx6_3 hR2 hF2 hT hS hl hm3_
      refine lv_iload_n hx hb dX8_openingKnives_6 rfl (lv_at hl 3 rfl) ?_
      refine lv_aload_n hx hb dX8_openingKnives_7 rfl (lv_at hl 0 rfl) ?_
      refine r_getr X hT 0 3 15 fk_8_32 rfl rfl (by decide) dX8_openingKnives_8 ?_
      refine r_geti X hT 15 15 fk_8_162 rfl rfl (by decide) dX8_openingKnives_11 ?_
      refine lv_icmp_ge (tgt := 69) hx hb dX8_openingKnives_14 (by decide) (fun c4 => ?_) (fun c4 => ?_)
      ·
        have q4 : (i2 15 15).toInt ≤ x6_3.toInt := i_le c4
        refine lv_aload_n hx hb dX8_openingKnives_69 rfl (lv_at hl 0 rfl) ?_
        refine r_getr X hT 0 3 15 fk_8_32 rfl rfl (by decide) dX8_openingKnives_70 ?_
        refine r_geti X hT 15 15 fk_8_162 rfl rfl (by decide) dX8_openingKnives_73 ?_
        refine lv_istore_n (lv' := [(3, .int (i2 15 15)), (0, .ref (h 0)), (1, .int x6_1), (2, .int x6_2)]) hx hb dX8_openingKnives_76 rfl hl (by decide) rfl (fun ls hl => ?_)
        refine lv_iconst (v := 0) hx hb dX8_openingKnives_77 (by decide) ?_
        refine lv_istore (lv' := [(4, .int 0), (3, .int (i2 15 15)), (0, .ref (h 0)), (1, .int x6_1), (2, .int x6_2)]) hx hb dX8_openingKnives_78 hl (by decide) rfl (fun ls hl => ?_)
        have L80_5 : ∀ (n7_ : Nat) (x80_1_1 : Int32) (x80_1_2 : Int32) (x80_1_3 : Int32) (x80_1_4 : Int32) (i6 : Nat → Nat → Int32) (g6 : Nat → Nat → Int64) (H : Heap) (locs : List Loc) (ls : Array Slot), rg 0 255 x80_1_2 → rg 0 20 x80_1_4 → Rg rA i6 → Fr [0, 65, 66, 67, 68, 69, 70] [] i g (i6, g6) → TH D h cz i6 g6 H → va_S (hA h) s.heap H locs → lv_has ls 5 [(0, .ref (h 0)), (1, .int x80_1_1), (2, .int x80_1_2), (3, .int x80_1_3), (4, .int x80_1_4)] → (20 - x80_1_4.toInt).toNat < n7_ → W p l e ({ frames := 6, cells := 0, slots := 0, locals := 133 } : Room) s m args below meth c H locs 0 0 Q (F0 m 80 ls []) := by
          intro n7_
          induction n7_ with
          | zero => intro x80_1_1 x80_1_2 x80_1_3 x80_1_4 i6 g6 H locs ls hhx80_1_2 hhx80_1_4 hR6 hF6 hT hS hl hm7_; exact absurd hm7_ (Nat.not_lt_zero _)
          | succ n7_ ih7_ =>
            intro x80_1_1 x80_1_2 x80_1_3 x80_1_4 i6 g6 H locs ls hhx80_1_2 hhx80_1_4 hR6 hF6 hT hS hl hm7_
            refine lv_iload hx hb dX8_openingKnives_80 (lv_at hl 4 rfl) ?_
            refine lv_aload_n hx hb dX8_openingKnives_82 rfl (lv_at hl 0 rfl) ?_
            refine r_getr X hT 0 3 15 fk_8_32 rfl rfl (by decide) dX8_openingKnives_83 ?_
            refine r_geti X hT 15 16 fk_8_179 rfl rfl (by decide) dX8_openingKnives_86 ?_
            refine lv_icmp_ge (tgt := 163) hx hb dX8_openingKnives_89 (by decide) (fun c8 => ?_) (fun c8 => ?_)
            ·
              have q8 : (i6 15 16).toInt ≤ x80_1_4.toInt := i_le c8
              refine lv_iload_n hx hb dX8_openingKnives_163 rfl (lv_at hl 1 rfl) ?_
              exact hret x80_1_1 _ _ _ _ _ _ dX8_openingKnives_164 hT hS ⟨hR6, hF6⟩
            ·
              have q8 : x80_1_4.toInt < (i6 15 16).toInt := i_nle c8
              have h9 : rg 0 19 x80_1_4 := t_ltx 0 19 hhx80_1_4 (Rg_at hR6 15 16 0 20 (by decide) rfl) (i_nle c8) (by decide)
              have h10 : rg 1 20 (i6 15 16) := t_lty 1 20 hhx80_1_4 (Rg_at hR6 15 16 0 20 (by decide) rfl) (i_nle c8) (by decide)
              refine lv_aload_n hx hb dX8_openingKnives_92 rfl (lv_at hl 0 rfl) ?_
              refine r_getr X hT 0 3 15 fk_8_32 rfl rfl (by decide) dX8_openingKnives_93 ?_
              refine r_getr X hT 15 7 23 fk_8_419 rfl rfl (by decide) dX8_openingKnives_96 ?_
              refine lv_iload hx hb dX8_openingKnives_99 (lv_at hl 4 rfl) ?_
              refine r_iald X hT 23 rfl (by decide) (v_in h9 (by decide)) dX8_openingKnives_101 ?_
              refine lv_if_ne (tgt := 157) hx hb dX8_openingKnives_102 (by decide) (fun c11 => ?_) (fun c11 => ?_)
              ·
                have q11 : ¬ (i6 23 x80_1_4.toNatClampNeg).toInt = 0 := i_ne c11
                have h12 : rg 1 1 (i6 23 x80_1_4.toNatClampNeg) := t_nelo 1 (Rg_at hR6 23 x80_1_4.toNatClampNeg 0 1 (v_lt (v_in h9 (by decide))) rfl) (rg_k (by decide) : rg 0 0 0) (i_ne c11) (by decide)
                obtain ⟨x13, ex13⟩ : ∃ y : Int32, y = x80_1_4 + 1 := ⟨_, rfl⟩
                refine lv_iinc (v := x13) (lv' := [(4, .int x13), (0, .ref (h 0)), (1, .int x80_1_1), (2, .int x80_1_2), (3, .int x80_1_3)]) hx hb dX8_openingKnives_157 hl (k := 4) rfl (by rw [ex13]; rfl) (by decide) rfl (fun ls hl => ?_)
                obtain ⟨hx13, ax13⟩ := rg_add 1 20 ex13 h9 (rg_k (by decide) : rg 1 1 1) (by decide)
                replace ax13 : x13.toInt = x80_1_4.toInt + 1 := ax13
                refine lv_goto (tgt := 80) hx hb dX8_openingKnives_160 (by decide) ?_
                exact ih7_ x80_1_1 x80_1_2 x80_1_3 x13 i6 g6 _ _ _ hhx80_1_2 (rg_w hx13 (by decide) : rg 0 20 x13) hR6 hF6 hT hS (lv_sub hl [1, 2, 3, 4, 0] rfl) (m_up ax13 hx13 (by decide) hm7_)
              ·
                have q11 : (i6 23 x80_1_4.toNatClampNeg).toInt = 0 := i_eq c11
                have h14 : rg 0 0 (i6 23 x80_1_4.toNatClampNeg) := t_eqx 0 0 (Rg_at hR6 23 x80_1_4.toNatClampNeg 0 1 (v_lt (v_in h9 (by decide))) rfl) (rg_k (by decide) : rg 0 0 0) (i_eq c11) (by decide)
                refine lv_aload_n hx hb dX8_openingKnives_105 rfl (lv_at hl 0 rfl) ?_
                refine lv_aload_n hx hb dX8_openingKnives_106 rfl (lv_at hl 0 rfl) ?_
                refine r_getr X hT 0 3 15 fk_8_32 rfl rfl (by decide) dX8_openingKnives_107 ?_
                refine r_getr X hT 15 8 24 fk_8_422 rfl rfl (by decide) dX8_openingKnives_110 ?_
                refine lv_iload hx hb dX8_openingKnives_113 (lv_at hl 4 rfl) ?_
                refine r_iald X hT 24 rfl (by decide) (v_in h9 (by decide)) dX8_openingKnives_115 ?_
                refine lv_aload_n hx hb dX8_openingKnives_116 rfl (lv_at hl 0 rfl) ?_
                refine r_getr X hT 0 3 15 fk_8_32 rfl rfl (by decide) dX8_openingKnives_117 ?_
                refine r_getr X hT 15 9 25 fk_8_425 rfl rfl (by decide) dX8_openingKnives_120 ?_
                refine lv_iload hx hb dX8_openingKnives_123 (lv_at hl 4 rfl) ?_
                refine r_iald X hT 25 rfl (by decide) (v_in h9 (by decide)) dX8_openingKnives_125 ?_
                refine lv_iload_n hx hb dX8_openingKnives_126 rfl (lv_at hl 2 rfl) ?_
                refine e_Vi (As := [.int (i6 24 x80_1_4.toNatClampNeg), .int (i6 25 x80_1_4.toNatClampNeg), .int x80_1_2]) (rest := []) X Y hT hS (m_X8_opensAnew hR6 (i6 24 x80_1_4.toNatClampNeg) (i6 25 x80_1_4.toNatClampNeg) x80_1_2 (Rg_at hR6 24 x80_1_4.toNatClampNeg 0 5 (v_lt (v_in h9 (by decide))) rfl)) mk_X8_opensAnew gm_897 rfl rfl (by decide) hd_X8_opensAnew ⟨rfl, rfl⟩ ⟨Nat.le_of_ble_eq_true rfl, Nat.le_of_ble_eq_true rfl⟩ hl.1 rfl (Nat.le_of_ble_eq_true rfl) dX8_openingKnives_127 ⟨Nat.zero_le _, Nat.zero_le _⟩ (fun r15 i15 g15 H locs hq hT hS => ?_)
                obtain ⟨hR15, hf15, hr15⟩ := hq
                have hF15 := Fr_tr hF6 hf15 (by decide)
                refine lv_if_eq (tgt := 154) hx hb dX8_openingKnives_130 (by decide) (fun c16 => ?_) (fun c16 => ?_)
                ·
                  have q16 : r15.toInt = 0 := i_eq c16
                  have h17 : rg 0 0 r15 := t_eqx 0 0 hr15 (rg_k (by decide) : rg 0 0 0) (i_eq c16) (by decide)
                  obtain ⟨x18, ex18⟩ : ∃ y : Int32, y = x80_1_3 + 1 := ⟨_, rfl⟩
                  refine lv_iinc (v := x18) (lv' := [(3, .int x18), (0, .ref (h 0)), (1, .int x80_1_1), (2, .int x80_1_2), (4, .int x80_1_4)]) hx hb dX8_openingKnives_154 hl (k := 3) rfl (by rw [ex18]; rfl) (by decide) rfl (fun ls hl => ?_)
                  obtain ⟨x19, ex19⟩ : ∃ y : Int32, y = x80_1_4 + 1 := ⟨_, rfl⟩
                  refine lv_iinc (v := x19) (lv' := [(4, .int x19), (3, .int x18), (0, .ref (h 0)), (1, .int x80_1_1), (2, .int x80_1_2)]) hx hb dX8_openingKnives_157 hl (k := 4) rfl (by rw [ex19]; rfl) (by decide) rfl (fun ls hl => ?_)
                  obtain ⟨hx19, ax19⟩ := rg_add 1 20 ex19 h9 (rg_k (by decide) : rg 1 1 1) (by decide)
                  replace ax19 : x19.toInt = x80_1_4.toInt + 1 := ax19
                  refine lv_goto (tgt := 80) hx hb dX8_openingKnives_160 (by decide) ?_
                  exact ih7_ x80_1_1 x80_1_2 x18 x19 i15 g15 _ _ _ hhx80_1_2 (rg_w hx19 (by decide) : rg 0 20 x19) hR15 hF15 hT hS (lv_sub hl [2, 3, 4, 1, 0] rfl) (m_up ax19 hx19 (by decide) hm7_)
                ·
                  have q16 : ¬ r15.toInt = 0 := i_ne c16
                  have h20 : rg 1 1 r15 := t_nelo 1 hr15 (rg_k (by decide) : rg 0 0 0) (i_ne c16) (by decide)
                  refine lv_iload_n hx hb dX8_openingKnives_133 rfl (lv_at hl 2 rfl) ?_
                  refine lv_iconst (v := 1) hx hb dX8_openingKnives_134 (by decide) ?_
                  refine lv_aload_n hx hb dX8_openingKnives_135 rfl (lv_at hl 0 rfl) ?_
                  refine r_getr X hT 0 3 15 fk_8_32 rfl rfl (by decide) dX8_openingKnives_136 ?_
                  refine r_getr X hT 15 8 24 fk_8_422 rfl rfl (by decide) dX8_openingKnives_139 ?_
                  refine lv_iload hx hb dX8_openingKnives_142 (lv_at hl 4 rfl) ?_
                  refine r_iald X hT 24 rfl (by decide) (v_in h9 (by decide)) dX8_openingKnives_144 ?_
                  refine q_ishl hx hb dX8_openingKnives_145 (fun x21 ex21 => ?_)
                  have h22 : rg 1 32 x21 := rg_shl1 ex21 (Rg_at hR15 24 x80_1_4.toNatClampNeg 0 5 (v_lt (v_in h9 (by decide))) rfl) (by decide)
                  refine q_ior hx hb dX8_openingKnives_146 (fun x23 ex23 => ?_)
                  have h24 : rg 0 255 x23 := rg_or8 ex23 hhx80_1_2 h22 (by decide)
                  refine lv_istore_n (lv' := [(2, .int x23), (0, .ref (h 0)), (1, .int x80_1_1), (3, .int x80_1_3), (4, .int x80_1_4)]) hx hb dX8_openingKnives_147 rfl hl (by decide) rfl (fun ls hl => ?_)
                  refine lv_iload_n hx hb dX8_openingKnives_148 rfl (lv_at hl 2 rfl) ?_
                  refine lv_iconst (v := 1) hx hb dX8_openingKnives_149 (by decide) ?_
                  refine lv_iload_n hx hb dX8_openingKnives_150 rfl (lv_at hl 3 rfl) ?_
                  refine q_ishl hx hb dX8_openingKnives_151 (fun x25 ex25 => ?_)
                  refine q_ior hx hb dX8_openingKnives_152 (fun x26 ex26 => ?_)
                  refine lv_istore_n (lv' := [(1, .int x26), (2, .int x23), (0, .ref (h 0)), (3, .int x80_1_3), (4, .int x80_1_4)]) hx hb dX8_openingKnives_153 rfl hl (by decide) rfl (fun ls hl => ?_)
                  obtain ⟨x27, ex27⟩ : ∃ y : Int32, y = x80_1_3 + 1 := ⟨_, rfl⟩
                  refine lv_iinc (v := x27) (lv' := [(3, .int x27), (1, .int x26), (2, .int x23), (0, .ref (h 0)), (4, .int x80_1_4)]) hx hb dX8_openingKnives_154 hl (k := 3) rfl (by rw [ex27]; rfl) (by decide) rfl (fun ls hl => ?_)
                  obtain ⟨x28, ex28⟩ : ∃ y : Int32, y = x80_1_4 + 1 := ⟨_, rfl⟩
                  refine lv_iinc (v := x28) (lv' := [(4, .int x28), (3, .int x27), (1, .int x26), (2, .int x23), (0, .ref (h 0))]) hx hb dX8_openingKnives_157 hl (k := 4) rfl (by rw [ex28]; rfl) (by decide) rfl (fun ls hl => ?_)
                  obtain ⟨hx28, ax28⟩ := rg_add 1 20 ex28 h9 (rg_k (by decide) : rg 1 1 1) (by decide)
                  replace ax28 : x28.toInt = x80_1_4.toInt + 1 := ax28
                  refine lv_goto (tgt := 80) hx hb dX8_openingKnives_160 (by decide) ?_
                  exact ih7_ x26 x23 x27 x28 i15 g15 _ _ _ h24 (rg_w hx28 (by decide) : rg 0 20 x28) hR15 hF15 hT hS (lv_sub hl [4, 2, 3, 1, 0] rfl) (m_up ax28 hx28 (by decide) hm7_)
        exact L80_5 _ x6_1 x6_2 (i2 15 15) (0) i2 g2 _ _ _ hhx6_2 (rg_w (rg_k (by decide) : rg 0 0 0) (by decide) : rg 0 20 0) hR2 hF2 hT hS (lv_sub hl [2, 3, 4, 1, 0] rfl) (Nat.lt_succ_self _)
      ·
        have q4 : x6_3.toInt < (i2 15 15).toInt := i_nle c4
        have h29 : rg 0 7 x6_3 := t_ltx 0 7 hhx6_3 (Rg_at hR2 15 15 0 8 (by decide) rfl) (i_nle c4) (by decide)
        have h30 : rg 1 8 (i2 15 15) := t_lty 1 8 hhx6_3 (Rg_at hR2 15 15 0 8 (by decide) rfl) (i_nle c4) (by decide)
        refine lv_aload_n hx hb dX8_openingKnives_17 rfl (lv_at hl 0 rfl) ?_
        refine lv_aload_n hx hb dX8_openingKnives_18 rfl (lv_at hl 0 rfl) ?_
        refine r_getr X hT 0 3 15 fk_8_32 rfl rfl (by decide) dX8_openingKnives_19 ?_
        refine r_getr X hT 15 5 21 fk_8_165 rfl rfl (by decide) dX8_openingKnives_22 ?_
        refine lv_iload_n hx hb dX8_openingKnives_25 rfl (lv_at hl 3 rfl) ?_
        refine r_iald X hT 21 rfl (by decide) (v_in h29 (by decide)) dX8_openingKnives_26 ?_
        refine lv_aload_n hx hb dX8_openingKnives_27 rfl (lv_at hl 0 rfl) ?_
        refine r_getr X hT 0 3 15 fk_8_32 rfl rfl (by decide) dX8_openingKnives_28 ?_
        refine r_getr X hT 15 6 22 fk_8_237 rfl rfl (by decide) dX8_openingKnives_31 ?_
        refine lv_iload_n hx hb dX8_openingKnives_34 rfl (lv_at hl 3 rfl) ?_
        refine r_iald X hT 22 rfl (by decide) (v_in h29 (by decide)) dX8_openingKnives_35 ?_
        refine lv_iload_n hx hb dX8_openingKnives_36 rfl (lv_at hl 2 rfl) ?_
        refine e_Vi (As := [.int (i2 21 x6_3.toNatClampNeg), .int (i2 22 x6_3.toNatClampNeg), .int x6_2]) (rest := []) X Y hT hS (m_X8_opensAnew hR2 (i2 21 x6_3.toNatClampNeg) (i2 22 x6_3.toNatClampNeg) x6_2 (Rg_at hR2 21 x6_3.toNatClampNeg 0 5 (v_lt (v_in h29 (by decide))) rfl)) mk_X8_opensAnew gm_897 rfl rfl (by decide) hd_X8_opensAnew ⟨rfl, rfl⟩ ⟨Nat.le_of_ble_eq_true rfl, Nat.le_of_ble_eq_true rfl⟩ hl.1 rfl (Nat.le_of_ble_eq_true rfl) dX8_openingKnives_37 ⟨Nat.zero_le _, Nat.zero_le _⟩ (fun r31 i31 g31 H locs hq hT hS => ?_)
        obtain ⟨hR31, hf31, hr31⟩ := hq
        have hF31 := Fr_tr hF2 hf31 (by decide)
        refine lv_if_eq (tgt := 63) hx hb dX8_openingKnives_40 (by decide) (fun c32 => ?_) (fun c32 => ?_)
        ·
          have q32 : r31.toInt = 0 := i_eq c32
          have h33 : rg 0 0 r31 := t_eqx 0 0 hr31 (rg_k (by decide) : rg 0 0 0) (i_eq c32) (by decide)
          obtain ⟨x34, ex34⟩ : ∃ y : Int32, y = x6_3 + 1 := ⟨_, rfl⟩
          refine lv_iinc (v := x34) (lv' := [(3, .int x34), (0, .ref (h 0)), (1, .int x6_1), (2, .int x6_2)]) hx hb dX8_openingKnives_63 hl (k := 3) rfl (by rw [ex34]; rfl) (by decide) rfl (fun ls hl => ?_)
          obtain ⟨hx34, ax34⟩ := rg_add 1 8 ex34 h29 (rg_k (by decide) : rg 1 1 1) (by decide)
          replace ax34 : x34.toInt = x6_3.toInt + 1 := ax34
          refine lv_goto (tgt := 6) hx hb dX8_openingKnives_66 (by decide) ?_
          exact ih3_ x6_1 x6_2 x34 i31 g31 _ _ _ hhx6_1 hhx6_2 (rg_w hx34 (by decide) : rg 0 8 x34) hR31 hF31 hT hS (lv_sub hl [1, 2, 3, 0] rfl) (m_up ax34 hx34 (by decide) hm3_)
        ·
          have q32 : ¬ r31.toInt = 0 := i_ne c32
          have h35 : rg 1 1 r31 := t_nelo 1 hr31 (rg_k (by decide) : rg 0 0 0) (i_ne c32) (by decide)
          refine lv_iload_n hx hb dX8_openingKnives_43 rfl (lv_at hl 2 rfl) ?_
          refine lv_iconst (v := 1) hx hb dX8_openingKnives_44 (by decide) ?_
          refine lv_aload_n hx hb dX8_openingKnives_45 rfl (lv_at hl 0 rfl) ?_
          refine r_getr X hT 0 3 15 fk_8_32 rfl rfl (by decide) dX8_openingKnives_46 ?_
          refine r_getr X hT 15 5 21 fk_8_165 rfl rfl (by decide) dX8_openingKnives_49 ?_
          refine lv_iload_n hx hb dX8_openingKnives_52 rfl (lv_at hl 3 rfl) ?_
          refine r_iald X hT 21 rfl (by decide) (v_in h29 (by decide)) dX8_openingKnives_53 ?_
          refine q_ishl hx hb dX8_openingKnives_54 (fun x36 ex36 => ?_)
          have h37 : rg 1 32 x36 := rg_shl1 ex36 (Rg_at hR31 21 x6_3.toNatClampNeg 0 5 (v_lt (v_in h29 (by decide))) rfl) (by decide)
          refine q_ior hx hb dX8_openingKnives_55 (fun x38 ex38 => ?_)
          have h39 : rg 0 255 x38 := rg_or8 ex38 hhx6_2 h37 (by decide)
          refine lv_istore_n (lv' := [(2, .int x38), (0, .ref (h 0)), (1, .int x6_1), (3, .int x6_3)]) hx hb dX8_openingKnives_56 rfl hl (by decide) rfl (fun ls hl => ?_)
          refine lv_iload_n hx hb dX8_openingKnives_57 rfl (lv_at hl 2 rfl) ?_
          refine lv_iconst (v := 1) hx hb dX8_openingKnives_58 (by decide) ?_
          refine lv_iload_n hx hb dX8_openingKnives_59 rfl (lv_at hl 3 rfl) ?_
          refine q_ishl hx hb dX8_openingKnives_60 (fun x40 ex40 => ?_)
          have h41 : rg 1 128 x40 := rg_shl1 ex40 h29 (by decide)
          refine q_ior hx hb dX8_openingKnives_61 (fun x42 ex42 => ?_)
          have h43 : rg 0 255 x42 := rg_or8 ex42 hhx6_1 h41 (by decide)
          refine lv_istore_n (lv' := [(1, .int x42), (2, .int x38), (0, .ref (h 0)), (3, .int x6_3)]) hx hb dX8_openingKnives_62 rfl hl (by decide) rfl (fun ls hl => ?_)
          obtain ⟨x44, ex44⟩ : ∃ y : Int32, y = x6_3 + 1 := ⟨_, rfl⟩
          refine lv_iinc (v := x44) (lv' := [(3, .int x44), (1, .int x42), (2, .int x38), (0, .ref (h 0))]) hx hb dX8_openingKnives_63 hl (k := 3) rfl (by rw [ex44]; rfl) (by decide) rfl (fun ls hl => ?_)
          obtain ⟨hx44, ax44⟩ := rg_add 1 8 ex44 h29 (rg_k (by decide) : rg 1 1 1) (by decide)
          replace ax44 : x44.toInt = x6_3.toInt + 1 := ax44
          refine lv_goto (tgt := 6) hx hb dX8_openingKnives_66 (by decide) ?_
          exact ih3_ x42 x38 x44 i31 g31 _ _ _ h43 h39 (rg_w hx44 (by decide) : rg 0 8 x44) hR31 hF31 hT hS (lv_sub hl [3, 1, 2, 0] rfl) (m_up ax44 hx44 (by decide) hm3_)
  exact L6_1 _ (0) (0) (0) i g _ _ _ (rg_w (rg_k (by decide) : rg 0 0 0) (by decide) : rg 0 255 0) (rg_w (rg_k (by decide) : rg 0 0 0) (by decide) : rg 0 255 0) (rg_w (rg_k (by decide) : rg 0 0 0) (by decide) : rg 0 8 0) hR hF hT hS (lv_sub hl [3, 2, 1, 0] rfl) (Nat.lt_succ_self _)
set_option maxRecDepth 100000 in
set_option maxHeartbeats 4000000 in
theorem m_X8_sharp {l : Launch} {D : va_G} {h : Nat → Nat} {cz : Nat → ClassId} {z : EZ} {i : Nat → Nat → Int32} {g : Nat → Nat → Int64} (hR : Rg rA i) : DtI l yX8_sharp cX8_sharp 1 (some .int) ({ frames := 7, cells := 0, slots := 0, locals := 157 } : Room) D h cz z i g [.ref (h 0)] (fun r u => Rg rA u.1 ∧ Fr [0, 65, 66, 67, 68, 69, 70] [] i g u) := by
  refine e_I pn_X8_sharp (Nat.le_of_ble_eq_true rfl) ?_
  intro p e s m args below meth c ls Q X Y hret hT hl hS
  have hx := X.1
  have hb := X.2.1
  have hl : lv_has ls 1 [(0, .ref (h 0))] := hl
  have hF : Fr [0, 65, 66, 67, 68, 69, 70] [] i g (i, g) := Fr_rf _ _ _ _
  refine lv_aload_n hx hb dX8_sharp_0 rfl (lv_at hl 0 rfl) ?_
  refine r_getr X hT 0 3 15 fk_8_32 rfl rfl (by decide) dX8_sharp_1 ?_
  refine e_Vi (As := []) (rest := []) X Y hT hS (m_X6_isTold_15 hR) mk_X6_isTold gm_698 rfl rfl (by decide) hd_X6_isTold ⟨rfl, rfl⟩ ⟨Nat.le_of_ble_eq_true rfl, Nat.le_of_ble_eq_true rfl⟩ hl.1 rfl (Nat.le_of_ble_eq_true rfl) dX8_sharp_4 ⟨Nat.zero_le _, Nat.zero_le _⟩ (fun r1 i1 g1 H locs hq hT hS => ?_)
  obtain ⟨eh1, hr1⟩ := hq
  rw [(Prod.mk.inj eh1).1, (Prod.mk.inj eh1).2] at hT
  refine lv_if_eq (tgt := 17) hx hb dX8_sharp_7 (by decide) (fun c2 => ?_) (fun c2 => ?_)
  ·
    have q2 : r1.toInt = 0 := i_eq c2
    have h3 : rg 0 0 r1 := t_eqx 0 0 hr1 (rg_k (by decide) : rg 0 0 0) (i_eq c2) (by decide)
    refine lv_bipush (v := (-2)) hx hb dX8_sharp_17 (by decide) ?_
    exact hret (-2) _ _ _ _ _ _ dX8_sharp_19 hT hS ⟨hR, hF⟩
  ·
    have q2 : ¬ r1.toInt = 0 := i_ne c2
    have h4 : rg 1 1 r1 := t_nelo 1 hr1 (rg_k (by decide) : rg 0 0 0) (i_ne c2) (by decide)
    refine lv_aload_n hx hb dX8_sharp_10 rfl (lv_at hl 0 rfl) ?_
    refine e_Vi (As := []) (rest := []) X Y hT hS (m_X8_openingKnives hR) mk_X8_openingKnives gm_893 rfl rfl (by decide) hd_X8_openingKnives ⟨rfl, rfl⟩ ⟨Nat.le_of_ble_eq_true rfl, Nat.le_of_ble_eq_true rfl⟩ hl.1 rfl (Nat.le_of_ble_eq_true rfl) dX8_sharp_11 ⟨Nat.zero_le _, Nat.zero_le _⟩ (fun r5 i5 g5 H locs hq hT hS => ?_)
    obtain ⟨hR5, hf5⟩ := hq
    have hF5 := Fr_tr hF hf5 (by decide)
    refine lv_goto (tgt := 19) hx hb dX8_sharp_14 (by decide) ?_
    exact hret r5 _ _ _ _ _ _ dX8_sharp_19 hT hS ⟨hR5, hF5⟩
set_option maxRecDepth 100000 in
set_option maxHeartbeats 4000000 in
theorem m_X6_everyPart_15 {l : Launch} {D : va_G} {h : Nat → Nat} {cz : Nat → ClassId} {z : EZ} {i : Nat → Nat → Int32} {g : Nat → Nat → Int64} (hR : Rg rA i) : DtI l yX6_everyPart cX6_everyPart 1 (some .int) ({ frames := 0, cells := 0, slots := 0, locals := 0 } : Room) D h cz z i g [.ref (h 15)] (fun r u => u = (i, g) ∧ rg 0 63 r) := by
  refine e_I pn_X6_everyPart (Nat.le_of_ble_eq_true rfl) ?_
  intro p e s m args below meth c ls Q X Y hret hT hl hS
  have hx := X.1
  have hb := X.2.1
  have hl : lv_has ls 1 [(0, .ref (h 15))] := hl
  refine lv_iconst (v := 1) hx hb dX6_everyPart_0 (by decide) ?_
  refine lv_aload_n hx hb dX6_everyPart_1 rfl (lv_at hl 0 rfl) ?_
  refine r_geti X hT 15 13 fk_6_52 rfl rfl (by decide) dX6_everyPart_2 ?_
  refine q_ishl hx hb dX6_everyPart_5 (fun x1 ex1 => ?_)
  have h2 : rg 1 64 x1 := rg_shl1 ex1 (Rg_at hR 15 13 0 6 (by decide) rfl) (by decide)
  refine lv_iconst (v := 1) hx hb dX6_everyPart_6 (by decide) ?_
  refine q_isub hx hb dX6_everyPart_7 (fun x3 ex3 => ?_)
  obtain ⟨hx3, ax3⟩ := rg_sub 0 63 ex3 h2 (rg_k (by decide) : rg 1 1 1) (by decide)
  replace ax3 : x3.toInt = x1.toInt - 1 := ax3
  exact hret x3 _ _ _ _ _ _ dX6_everyPart_8 hT hS ⟨rfl, hx3⟩
set_option maxRecDepth 100000 in
set_option maxHeartbeats 4000000 in
theorem m_X8_shutAtLast {l : Launch} {D : va_G} {h : Nat → Nat} {cz : Nat → ClassId} {z : EZ} {i : Nat → Nat → Int32} {g : Nat → Nat → Int64} (hR : Rg rA i) : DtI l yX8_shutAtLast cX8_shutAtLast 1 (some .int) ({ frames := 5, cells := 0, slots := 0, locals := 110 } : Room) D h cz z i g [.ref (h 0)] (fun r u => Rg rA u.1 ∧ Fr [0, 65, 66, 67, 68, 69, 70] [] i g u ∧ rg 0 63 r) := by
  refine e_I pn_X8_shutAtLast (Nat.le_of_ble_eq_true rfl) ?_
  intro p e s m args below meth c ls Q X Y hret hT hl hS
  have hx := X.1
  have hb := X.2.1
  have hl : lv_has ls 1 [(0, .ref (h 0))] := hl
  have hF : Fr [0, 65, 66, 67, 68, 69, 70] [] i g (i, g) := Fr_rf _ _ _ _
  refine lv_aload_n hx hb dX8_shutAtLast_0 rfl (lv_at hl 0 rfl) ?_
  refine r_getr X hT 0 3 15 fk_8_32 rfl rfl (by decide) dX8_shutAtLast_1 ?_
  refine e_Vi (As := []) (rest := []) X Y hT hS (m_X6_everyPart_15 hR) mk_X6_everyPart gm_913 rfl rfl (by decide) hd_X6_everyPart ⟨rfl, rfl⟩ ⟨Nat.le_of_ble_eq_true rfl, Nat.le_of_ble_eq_true rfl⟩ hl.1 rfl (Nat.le_of_ble_eq_true rfl) dX8_shutAtLast_4 ⟨Nat.zero_le _, Nat.zero_le _⟩ (fun r1 i1 g1 H locs hq hT hS => ?_)
  obtain ⟨eh1, hr1⟩ := hq
  rw [(Prod.mk.inj eh1).1, (Prod.mk.inj eh1).2] at hT
  refine lv_aload_n hx hb dX8_shutAtLast_7 rfl (lv_at hl 0 rfl) ?_
  refine e_Vr (As := []) (rest := [.int r1]) X Y hT hS (m_X8_current hR) mk_X8_current gm_736 rfl rfl (by decide) hd_X8_current ⟨rfl, rfl⟩ ⟨Nat.le_of_ble_eq_true rfl, Nat.le_of_ble_eq_true rfl⟩ hl.1 rfl (Nat.le_of_ble_eq_true rfl) dX8_shutAtLast_8 ⟨Nat.zero_le _, Nat.zero_le _⟩ (fun i2 g2 H locs hq hT hS => ?_)
  obtain ⟨hR2, hf2⟩ := hq
  have hF2 := Fr_tr hF hf2 (by decide)
  refine lv_aload_n hx hb dX8_shutAtLast_11 rfl (lv_at hl 0 rfl) ?_
  refine r_getr X hT 0 3 15 fk_8_32 rfl rfl (by decide) dX8_shutAtLast_12 ?_
  refine r_geti X hT 15 10 fk_8_168 rfl rfl (by decide) dX8_shutAtLast_15 ?_
  refine e_Vi (As := [.int (i2 15 10)]) (rest := [.int r1]) X Y hT hS (m_X0_openIn_65 hR2 (i2 15 10)) mk_X0_openIn gm_799 rfl rfl (by decide) hd_X0_openIn ⟨rfl, rfl⟩ ⟨Nat.le_of_ble_eq_true rfl, Nat.le_of_ble_eq_true rfl⟩ hl.1 rfl (Nat.le_of_ble_eq_true rfl) dX8_shutAtLast_18 ⟨Nat.zero_le _, Nat.zero_le _⟩ (fun r3 i3 g3 H locs hq hT hS => ?_)
  have eh3 := hq
  rw [(Prod.mk.inj eh3).1, (Prod.mk.inj eh3).2] at hT
  refine lv_iconst (v := (-1)) hx hb dX8_shutAtLast_21 (by decide) ?_
  refine q_ixor hx hb dX8_shutAtLast_22 (fun x4 ex4 => ?_)
  refine q_iand hx hb dX8_shutAtLast_23 (fun x5 ex5 => ?_)
  have h6 : rg 0 63 x5 := rg_andl ex5 hr1 (by decide)
  exact hret x5 _ _ _ _ _ _ dX8_shutAtLast_24 hT hS ⟨hR2, hF2, h6⟩
set_option maxRecDepth 100000 in
set_option maxHeartbeats 4000000 in
theorem m_X8_uncut {l : Launch} {D : va_G} {h : Nat → Nat} {cz : Nat → ClassId} {z : EZ} {i : Nat → Nat → Int32} {g : Nat → Nat → Int64} (hR : Rg rA i) : DtI l yX8_uncut cX8_uncut 1 (some .int) ({ frames := 6, cells := 0, slots := 0, locals := 130 } : Room) D h cz z i g [.ref (h 0)] (fun r u => Rg rA u.1 ∧ Fr [0, 65, 66, 67, 68, 69, 70] [] i g u ∧ rg (-2) 63 r) := by
  refine e_I pn_X8_uncut (Nat.le_of_ble_eq_true rfl) ?_
  intro p e s m args below meth c ls Q X Y hret hT hl hS
  have hx := X.1
  have hb := X.2.1
  have hl : lv_has ls 1 [(0, .ref (h 0))] := hl
  have hF : Fr [0, 65, 66, 67, 68, 69, 70] [] i g (i, g) := Fr_rf _ _ _ _
  refine lv_aload_n hx hb dX8_uncut_0 rfl (lv_at hl 0 rfl) ?_
  refine r_getr X hT 0 3 15 fk_8_32 rfl rfl (by decide) dX8_uncut_1 ?_
  refine e_Vi (As := []) (rest := []) X Y hT hS (m_X6_isTold_15 hR) mk_X6_isTold gm_698 rfl rfl (by decide) hd_X6_isTold ⟨rfl, rfl⟩ ⟨Nat.le_of_ble_eq_true rfl, Nat.le_of_ble_eq_true rfl⟩ hl.1 rfl (Nat.le_of_ble_eq_true rfl) dX8_uncut_4 ⟨Nat.zero_le _, Nat.zero_le _⟩ (fun r1 i1 g1 H locs hq hT hS => ?_)
  obtain ⟨eh1, hr1⟩ := hq
  rw [(Prod.mk.inj eh1).1, (Prod.mk.inj eh1).2] at hT
  refine lv_if_eq (tgt := 17) hx hb dX8_uncut_7 (by decide) (fun c2 => ?_) (fun c2 => ?_)
  ·
    have q2 : r1.toInt = 0 := i_eq c2
    have h3 : rg 0 0 r1 := t_eqx 0 0 hr1 (rg_k (by decide) : rg 0 0 0) (i_eq c2) (by decide)
    refine lv_bipush (v := (-2)) hx hb dX8_uncut_17 (by decide) ?_
    exact hret (-2) _ _ _ _ _ _ dX8_uncut_19 hT hS ⟨hR, hF, (rg_w (rg_k (by decide) : rg (-2) (-2) (-2)) (by decide) : rg (-2) 63 (-2))⟩
  ·
    have q2 : ¬ r1.toInt = 0 := i_ne c2
    have h4 : rg 1 1 r1 := t_nelo 1 hr1 (rg_k (by decide) : rg 0 0 0) (i_ne c2) (by decide)
    refine lv_aload_n hx hb dX8_uncut_10 rfl (lv_at hl 0 rfl) ?_
    refine e_Vi (As := []) (rest := []) X Y hT hS (m_X8_shutAtLast hR) mk_X8_shutAtLast gm_909 rfl rfl (by decide) hd_X8_shutAtLast ⟨rfl, rfl⟩ ⟨Nat.le_of_ble_eq_true rfl, Nat.le_of_ble_eq_true rfl⟩ hl.1 rfl (Nat.le_of_ble_eq_true rfl) dX8_uncut_11 ⟨Nat.zero_le _, Nat.zero_le _⟩ (fun r5 i5 g5 H locs hq hT hS => ?_)
    obtain ⟨hR5, hf5, hr5⟩ := hq
    have hF5 := Fr_tr hF hf5 (by decide)
    refine lv_goto (tgt := 19) hx hb dX8_uncut_14 (by decide) ?_
    exact hret r5 _ _ _ _ _ _ dX8_uncut_19 hT hS ⟨hR5, hF5, (rg_w hr5 (by decide) : rg (-2) 63 r5)⟩
set_option maxRecDepth 100000 in
set_option maxHeartbeats 4000000 in
theorem m_X8_done {l : Launch} {D : va_G} {h : Nat → Nat} {cz : Nat → ClassId} {z : EZ} {i : Nat → Nat → Int32} {g : Nat → Nat → Int64} (hR : Rg rA i) : DtI l yX8_done cX8_done 2 (some .int) ({ frames := 5, cells := 0, slots := 0, locals := 110 } : Room) D h cz z i g [.ref (h 0)] (fun r u => Rg rA u.1 ∧ Fr [0, 65, 66, 67, 68, 69, 70] [] i g u ∧ rg (-2) 12 r) := by
  refine e_I pn_X8_done (Nat.le_of_ble_eq_true rfl) ?_
  intro p e s m args below meth c ls Q X Y hret hT hl hS
  have hx := X.1
  have hb := X.2.1
  have hl : lv_has ls 2 [(0, .ref (h 0))] := hl
  have hF : Fr [0, 65, 66, 67, 68, 69, 70] [] i g (i, g) := Fr_rf _ _ _ _
  refine lv_aload_n hx hb dX8_done_0 rfl (lv_at hl 0 rfl) ?_
  refine r_getr X hT 0 3 15 fk_8_32 rfl rfl (by decide) dX8_done_1 ?_
  refine e_Vi (As := []) (rest := []) X Y hT hS (m_X6_isTold_15 hR) mk_X6_isTold gm_698 rfl rfl (by decide) hd_X6_isTold ⟨rfl, rfl⟩ ⟨Nat.le_of_ble_eq_true rfl, Nat.le_of_ble_eq_true rfl⟩ hl.1 rfl (Nat.le_of_ble_eq_true rfl) dX8_done_4 ⟨Nat.zero_le _, Nat.zero_le _⟩ (fun r1 i1 g1 H locs hq hT hS => ?_)
  obtain ⟨eh1, hr1⟩ := hq
  rw [(Prod.mk.inj eh1).1, (Prod.mk.inj eh1).2] at hT
  refine lv_if_ne (tgt := 13) hx hb dX8_done_7 (by decide) (fun c2 => ?_) (fun c2 => ?_)
  ·
    have q2 : ¬ r1.toInt = 0 := i_ne c2
    have h3 : rg 1 1 r1 := t_nelo 1 hr1 (rg_k (by decide) : rg 0 0 0) (i_ne c2) (by decide)
    refine lv_iconst (v := 0) hx hb dX8_done_13 (by decide) ?_
    refine lv_istore_n (lv' := [(1, .int 0), (0, .ref (h 0))]) hx hb dX8_done_14 rfl hl (by decide) rfl (fun ls hl => ?_)
    have L15_4 : ∀ (n6_ : Nat) (x15_1 : Int32) (i5 : Nat → Nat → Int32) (g5 : Nat → Nat → Int64) (H : Heap) (locs : List Loc) (ls : Array Slot), rg 0 13 x15_1 → Rg rA i5 → Fr [0, 65, 66, 67, 68, 69, 70] [] i g (i5, g5) → TH D h cz i5 g5 H → va_S (hA h) s.heap H locs → lv_has ls 2 [(0, .ref (h 0)), (1, .int x15_1)] → (13 - x15_1.toInt).toNat < n6_ → W p l e ({ frames := 5, cells := 0, slots := 0, locals := 110 } : Room) s m args below meth c H locs 0 0 Q (F0 m 15 ls []) := by
      intro n6_
      induction n6_ with
      | zero => intro x15_1 i5 g5 H locs ls hhx15_1 hR5 hF5 hT hS hl hm6_; exact absurd hm6_ (Nat.not_lt_zero _)
      | succ n6_ ih6_ =>
        intro x15_1 i5 g5 H locs ls hhx15_1 hR5 hF5 hT hS hl hm6_
        refine lv_iload_n hx hb dX8_done_15 rfl (lv_at hl 1 rfl) ?_
        refine lv_aload_n hx hb dX8_done_16 rfl (lv_at hl 0 rfl) ?_
        refine r_getr X hT 0 3 15 fk_8_32 rfl rfl (by decide) dX8_done_17 ?_
        refine r_geti X hT 15 10 fk_8_168 rfl rfl (by decide) dX8_done_20 ?_
        refine lv_icmp_gt (tgt := 62) hx hb dX8_done_23 (by decide) (fun c7 => ?_) (fun c7 => ?_)
        ·
          have q7 : (i5 15 10).toInt < x15_1.toInt := i_lt c7
          refine lv_iconst (v := (-1)) hx hb dX8_done_62 (by decide) ?_
          exact hret (-1) _ _ _ _ _ _ dX8_done_63 hT hS ⟨hR5, hF5, (rg_w (rg_k (by decide) : rg (-1) (-1) (-1)) (by decide) : rg (-2) 12 (-1))⟩
        ·
          have q7 : x15_1.toInt ≤ (i5 15 10).toInt := i_nlt c7
          have h8 : rg 0 12 x15_1 := t_lex 0 12 hhx15_1 (Rg_at hR5 15 10 (-1) 12 (by decide) rfl) (i_nlt c7) (by decide)
          have h9 : rg 0 12 (i5 15 10) := t_ley 0 12 hhx15_1 (Rg_at hR5 15 10 (-1) 12 (by decide) rfl) (i_nlt c7) (by decide)
          refine lv_aload_n hx hb dX8_done_26 rfl (lv_at hl 0 rfl) ?_
          refine r_getr X hT 0 3 15 fk_8_32 rfl rfl (by decide) dX8_done_27 ?_
          refine r_geti X hT 15 13 fk_8_156 rfl rfl (by decide) dX8_done_30 ?_
          refine lv_if_le (tgt := 62) hx hb dX8_done_33 (by decide) (fun c10 => ?_) (fun c10 => ?_)
          ·
            have q10 : (i5 15 13).toInt ≤ 0 := i_le c10
            have h11 : rg 0 0 (i5 15 13) := t_lex 0 0 (Rg_at hR5 15 13 0 6 (by decide) rfl) (rg_k (by decide) : rg 0 0 0) (i_le c10) (by decide)
            refine lv_iconst (v := (-1)) hx hb dX8_done_62 (by decide) ?_
            exact hret (-1) _ _ _ _ _ _ dX8_done_63 hT hS ⟨hR5, hF5, (rg_w (rg_k (by decide) : rg (-1) (-1) (-1)) (by decide) : rg (-2) 12 (-1))⟩
          ·
            have q10 : 0 < (i5 15 13).toInt := i_nle c10
            have h12 : rg 1 6 (i5 15 13) := t_lty 1 6 (rg_k (by decide) : rg 0 0 0) (Rg_at hR5 15 13 0 6 (by decide) rfl) (i_nle c10) (by decide)
            refine lv_aload_n hx hb dX8_done_36 rfl (lv_at hl 0 rfl) ?_
            refine e_Vr (As := []) (rest := []) X Y hT hS (m_X8_current hR5) mk_X8_current gm_736 rfl rfl (by decide) hd_X8_current ⟨rfl, rfl⟩ ⟨Nat.le_of_ble_eq_true rfl, Nat.le_of_ble_eq_true rfl⟩ hl.1 rfl (Nat.le_of_ble_eq_true rfl) dX8_done_37 ⟨Nat.zero_le _, Nat.zero_le _⟩ (fun i13 g13 H locs hq hT hS => ?_)
            obtain ⟨hR13, hf13⟩ := hq
            have hF13 := Fr_tr hF5 hf13 (by decide)
            refine lv_iload_n hx hb dX8_done_40 rfl (lv_at hl 1 rfl) ?_
            refine e_Vi (As := [.int x15_1]) (rest := []) X Y hT hS (m_X0_openIn_65 hR13 x15_1) mk_X0_openIn gm_799 rfl rfl (by decide) hd_X0_openIn ⟨rfl, rfl⟩ ⟨Nat.le_of_ble_eq_true rfl, Nat.le_of_ble_eq_true rfl⟩ hl.1 rfl (Nat.le_of_ble_eq_true rfl) dX8_done_41 ⟨Nat.zero_le _, Nat.zero_le _⟩ (fun r14 i14 g14 H locs hq hT hS => ?_)
            have eh14 := hq
            rw [(Prod.mk.inj eh14).1, (Prod.mk.inj eh14).2] at hT
            refine lv_aload_n hx hb dX8_done_44 rfl (lv_at hl 0 rfl) ?_
            refine r_getr X hT 0 3 15 fk_8_32 rfl rfl (by decide) dX8_done_45 ?_
            refine e_Vi (As := []) (rest := [.int r14]) X Y hT hS (m_X6_everyPart_15 hR13) mk_X6_everyPart gm_913 rfl rfl (by decide) hd_X6_everyPart ⟨rfl, rfl⟩ ⟨Nat.le_of_ble_eq_true rfl, Nat.le_of_ble_eq_true rfl⟩ hl.1 rfl (Nat.le_of_ble_eq_true rfl) dX8_done_48 ⟨Nat.zero_le _, Nat.zero_le _⟩ (fun r15 i15 g15 H locs hq hT hS => ?_)
            obtain ⟨eh15, hr15⟩ := hq
            rw [(Prod.mk.inj eh15).1, (Prod.mk.inj eh15).2] at hT
            refine lv_icmp_ne (tgt := 56) hx hb dX8_done_51 (by decide) (fun c16 => ?_) (fun c16 => ?_)
            ·
              have q16 : ¬ r14.toInt = r15.toInt := i_ne c16
              obtain ⟨x17, ex17⟩ : ∃ y : Int32, y = x15_1 + 1 := ⟨_, rfl⟩
              refine lv_iinc (v := x17) (lv' := [(1, .int x17), (0, .ref (h 0))]) hx hb dX8_done_56 hl (k := 1) rfl (by rw [ex17]; rfl) (by decide) rfl (fun ls hl => ?_)
              obtain ⟨hx17, ax17⟩ := rg_add 1 13 ex17 h8 (rg_k (by decide) : rg 1 1 1) (by decide)
              replace ax17 : x17.toInt = x15_1.toInt + 1 := ax17
              refine lv_goto (tgt := 15) hx hb dX8_done_59 (by decide) ?_
              exact ih6_ x17 i13 g13 _ _ _ (rg_w hx17 (by decide) : rg 0 13 x17) hR13 hF13 hT hS (lv_sub hl [1, 0] rfl) (m_up ax17 hx17 (by decide) hm6_)
            ·
              have q16 : r14.toInt = r15.toInt := i_eq c16
              have h18 : rg 0 63 r14 := t_eqx 0 63 (rg_top r14) hr15 (i_eq c16) (by decide)
              refine lv_iload_n hx hb dX8_done_54 rfl (lv_at hl 1 rfl) ?_
              exact hret x15_1 _ _ _ _ _ _ dX8_done_55 hT hS ⟨hR13, hF13, (rg_w h8 (by decide) : rg (-2) 12 x15_1)⟩
    exact L15_4 _ (0) i g _ _ _ (rg_w (rg_k (by decide) : rg 0 0 0) (by decide) : rg 0 13 0) hR hF hT hS (lv_sub hl [1, 0] rfl) (Nat.lt_succ_self _)
  ·
    have q2 : r1.toInt = 0 := i_eq c2
    have h19 : rg 0 0 r1 := t_eqx 0 0 hr1 (rg_k (by decide) : rg 0 0 0) (i_eq c2) (by decide)
    refine lv_bipush (v := (-2)) hx hb dX8_done_10 (by decide) ?_
    exact hret (-2) _ _ _ _ _ _ dX8_done_12 hT hS ⟨hR, hF, (rg_w (rg_k (by decide) : rg (-2) (-2) (-2)) (by decide) : rg (-2) 12 (-2))⟩
set_option maxRecDepth 100000 in
set_option maxHeartbeats 4000000 in
theorem m_X8_openedIn {l : Launch} {D : va_G} {h : Nat → Nat} {cz : Nat → ClassId} {z : EZ} {i : Nat → Nat → Int32} {g : Nat → Nat → Int64} (hR : Rg rA i) (a_a : Int32) : DtI l yX8_openedIn cX8_openedIn 2 (some .int) ({ frames := 5, cells := 0, slots := 0, locals := 110 } : Room) D h cz z i g [.ref (h 0), .int a_a] (fun r u => Rg rA u.1 ∧ Fr [0, 65, 66, 67, 68, 69, 70] [] i g u ∧ rg 0 63 r) := by
  refine e_I pn_X8_openedIn (Nat.le_of_ble_eq_true rfl) ?_
  intro p e s m args below meth c ls Q X Y hret hT hl hS
  have hx := X.1
  have hb := X.2.1
  have hl : lv_has ls 2 [(0, .ref (h 0)), (1, .int a_a)] := hl
  have hF : Fr [0, 65, 66, 67, 68, 69, 70] [] i g (i, g) := Fr_rf _ _ _ _
  refine lv_aload_n hx hb dX8_openedIn_0 rfl (lv_at hl 0 rfl) ?_
  refine e_Vr (As := []) (rest := []) X Y hT hS (m_X8_current hR) mk_X8_current gm_736 rfl rfl (by decide) hd_X8_current ⟨rfl, rfl⟩ ⟨Nat.le_of_ble_eq_true rfl, Nat.le_of_ble_eq_true rfl⟩ hl.1 rfl (Nat.le_of_ble_eq_true rfl) dX8_openedIn_1 ⟨Nat.zero_le _, Nat.zero_le _⟩ (fun i1 g1 H locs hq hT hS => ?_)
  obtain ⟨hR1, hf1⟩ := hq
  have hF1 := Fr_tr hF hf1 (by decide)
  refine lv_iload_n hx hb dX8_openedIn_4 rfl (lv_at hl 1 rfl) ?_
  refine lv_iconst (v := 1) hx hb dX8_openedIn_5 (by decide) ?_
  refine q_iadd hx hb dX8_openedIn_6 (fun x2 ex2 => ?_)
  refine e_Vi (As := [.int x2]) (rest := []) X Y hT hS (m_X0_openIn_65 hR1 x2) mk_X0_openIn gm_799 rfl rfl (by decide) hd_X0_openIn ⟨rfl, rfl⟩ ⟨Nat.le_of_ble_eq_true rfl, Nat.le_of_ble_eq_true rfl⟩ hl.1 rfl (Nat.le_of_ble_eq_true rfl) dX8_openedIn_7 ⟨Nat.zero_le _, Nat.zero_le _⟩ (fun r3 i3 g3 H locs hq hT hS => ?_)
  have eh3 := hq
  rw [(Prod.mk.inj eh3).1, (Prod.mk.inj eh3).2] at hT
  refine lv_aload_n hx hb dX8_openedIn_10 rfl (lv_at hl 0 rfl) ?_
  refine e_Vr (As := []) (rest := [.int r3]) X Y hT hS (m_X8_current hR1) mk_X8_current gm_736 rfl rfl (by decide) hd_X8_current ⟨rfl, rfl⟩ ⟨Nat.le_of_ble_eq_true rfl, Nat.le_of_ble_eq_true rfl⟩ hl.1 rfl (Nat.le_of_ble_eq_true rfl) dX8_openedIn_11 ⟨Nat.zero_le _, Nat.zero_le _⟩ (fun i4 g4 H locs hq hT hS => ?_)
  obtain ⟨hR4, hf4⟩ := hq
  have hF4 := Fr_tr hF1 hf4 (by decide)
  refine lv_iload_n hx hb dX8_openedIn_14 rfl (lv_at hl 1 rfl) ?_
  refine e_Vi (As := [.int a_a]) (rest := [.int r3]) X Y hT hS (m_X0_openIn_65 hR4 a_a) mk_X0_openIn gm_799 rfl rfl (by decide) hd_X0_openIn ⟨rfl, rfl⟩ ⟨Nat.le_of_ble_eq_true rfl, Nat.le_of_ble_eq_true rfl⟩ hl.1 rfl (Nat.le_of_ble_eq_true rfl) dX8_openedIn_15 ⟨Nat.zero_le _, Nat.zero_le _⟩ (fun r5 i5 g5 H locs hq hT hS => ?_)
  have eh5 := hq
  rw [(Prod.mk.inj eh5).1, (Prod.mk.inj eh5).2] at hT
  refine lv_iconst (v := (-1)) hx hb dX8_openedIn_18 (by decide) ?_
  refine q_ixor hx hb dX8_openedIn_19 (fun x6 ex6 => ?_)
  refine q_iand hx hb dX8_openedIn_20 (fun x7 ex7 => ?_)
  refine e_Si (As := [.int x7]) (rest := []) X Y hT hS (m_J6_bitCount_0f7a4 x7) sk_J6_bitCount_0f7a4 gm_929 hd_J6_bitCount_0f7a4 ⟨rfl, rfl⟩ ⟨Nat.le_of_ble_eq_true rfl, Nat.le_of_ble_eq_true rfl⟩ hl.1 rfl (Nat.le_of_ble_eq_true rfl) dX8_openedIn_21 ⟨Nat.zero_le _, Nat.zero_le _⟩ (fun r8 i8 g8 H locs hq hT hS => ?_)
  obtain ⟨eh8, hr8⟩ := hq
  rw [(Prod.mk.inj eh8).1, (Prod.mk.inj eh8).2] at hT
  exact hret r8 _ _ _ _ _ _ dX8_openedIn_24 hT hS ⟨hR4, hF4, hr8⟩
set_option maxRecDepth 100000 in
set_option maxHeartbeats 4000000 in
theorem m_X8_rush {l : Launch} {D : va_G} {h : Nat → Nat} {cz : Nat → ClassId} {z : EZ} {i : Nat → Nat → Int32} {g : Nat → Nat → Int64} (hR : Rg rA i) : DtI l yX8_rush cX8_rush 3 (some .int) ({ frames := 6, cells := 0, slots := 0, locals := 131 } : Room) D h cz z i g [.ref (h 0)] (fun r u => Rg rA u.1 ∧ Fr [0, 65, 66, 67, 68, 69, 70] [] i g u ∧ rg (-2) 63 r) := by
  refine e_I pn_X8_rush (Nat.le_of_ble_eq_true rfl) ?_
  intro p e s m args below meth c ls Q X Y hret hT hl hS
  have hx := X.1
  have hb := X.2.1
  have hl : lv_has ls 3 [(0, .ref (h 0))] := hl
  have hF : Fr [0, 65, 66, 67, 68, 69, 70] [] i g (i, g) := Fr_rf _ _ _ _
  refine lv_aload_n hx hb dX8_rush_0 rfl (lv_at hl 0 rfl) ?_
  refine r_getr X hT 0 3 15 fk_8_32 rfl rfl (by decide) dX8_rush_1 ?_
  refine e_Vi (As := []) (rest := []) X Y hT hS (m_X6_isTold_15 hR) mk_X6_isTold gm_698 rfl rfl (by decide) hd_X6_isTold ⟨rfl, rfl⟩ ⟨Nat.le_of_ble_eq_true rfl, Nat.le_of_ble_eq_true rfl⟩ hl.1 rfl (Nat.le_of_ble_eq_true rfl) dX8_rush_4 ⟨Nat.zero_le _, Nat.zero_le _⟩ (fun r1 i1 g1 H locs hq hT hS => ?_)
  obtain ⟨eh1, hr1⟩ := hq
  rw [(Prod.mk.inj eh1).1, (Prod.mk.inj eh1).2] at hT
  refine lv_if_ne (tgt := 13) hx hb dX8_rush_7 (by decide) (fun c2 => ?_) (fun c2 => ?_)
  ·
    have q2 : ¬ r1.toInt = 0 := i_ne c2
    have h3 : rg 1 1 r1 := t_nelo 1 hr1 (rg_k (by decide) : rg 0 0 0) (i_ne c2) (by decide)
    refine lv_iconst (v := 0) hx hb dX8_rush_13 (by decide) ?_
    refine lv_istore_n (lv' := [(1, .int 0), (0, .ref (h 0))]) hx hb dX8_rush_14 rfl hl (by decide) rfl (fun ls hl => ?_)
    refine lv_iconst (v := 0) hx hb dX8_rush_15 (by decide) ?_
    refine lv_istore_n (lv' := [(2, .int 0), (1, .int 0), (0, .ref (h 0))]) hx hb dX8_rush_16 rfl hl (by decide) rfl (fun ls hl => ?_)
    have L17_4 : ∀ (n6_ : Nat) (x17_1 : Int32) (x17_2 : Int32) (i5 : Nat → Nat → Int32) (g5 : Nat → Nat → Int64) (H : Heap) (locs : List Loc) (ls : Array Slot), rg 0 63 x17_1 → rg 0 12 x17_2 → Rg rA i5 → Fr [0, 65, 66, 67, 68, 69, 70] [] i g (i5, g5) → TH D h cz i5 g5 H → va_S (hA h) s.heap H locs → lv_has ls 3 [(0, .ref (h 0)), (1, .int x17_1), (2, .int x17_2)] → (12 - x17_2.toInt).toNat < n6_ → W p l e ({ frames := 6, cells := 0, slots := 0, locals := 131 } : Room) s m args below meth c H locs 0 0 Q (F0 m 17 ls []) := by
      intro n6_
      induction n6_ with
      | zero => intro x17_1 x17_2 i5 g5 H locs ls hhx17_1 hhx17_2 hR5 hF5 hT hS hl hm6_; exact absurd hm6_ (Nat.not_lt_zero _)
      | succ n6_ ih6_ =>
        intro x17_1 x17_2 i5 g5 H locs ls hhx17_1 hhx17_2 hR5 hF5 hT hS hl hm6_
        refine lv_iload_n hx hb dX8_rush_17 rfl (lv_at hl 2 rfl) ?_
        refine lv_aload_n hx hb dX8_rush_18 rfl (lv_at hl 0 rfl) ?_
        refine r_getr X hT 0 3 15 fk_8_32 rfl rfl (by decide) dX8_rush_19 ?_
        refine r_geti X hT 15 10 fk_8_168 rfl rfl (by decide) dX8_rush_22 ?_
        refine lv_icmp_ge (tgt := 44) hx hb dX8_rush_25 (by decide) (fun c7 => ?_) (fun c7 => ?_)
        ·
          have q7 : (i5 15 10).toInt ≤ x17_2.toInt := i_le c7
          refine lv_iload_n hx hb dX8_rush_44 rfl (lv_at hl 1 rfl) ?_
          exact hret x17_1 _ _ _ _ _ _ dX8_rush_45 hT hS ⟨hR5, hF5, (rg_w hhx17_1 (by decide) : rg (-2) 63 x17_1)⟩
        ·
          have q7 : x17_2.toInt < (i5 15 10).toInt := i_nle c7
          have h8 : rg 0 11 x17_2 := t_ltx 0 11 hhx17_2 (Rg_at hR5 15 10 (-1) 12 (by decide) rfl) (i_nle c7) (by decide)
          have h9 : rg 1 12 (i5 15 10) := t_lty 1 12 hhx17_2 (Rg_at hR5 15 10 (-1) 12 (by decide) rfl) (i_nle c7) (by decide)
          refine lv_iload_n hx hb dX8_rush_28 rfl (lv_at hl 1 rfl) ?_
          refine lv_aload_n hx hb dX8_rush_29 rfl (lv_at hl 0 rfl) ?_
          refine lv_iload_n hx hb dX8_rush_30 rfl (lv_at hl 2 rfl) ?_
          refine e_Vi (As := [.int x17_2]) (rest := [.int x17_1]) X Y hT hS (m_X8_openedIn hR5 x17_2) mk_X8_openedIn gm_925 rfl rfl (by decide) hd_X8_openedIn ⟨rfl, rfl⟩ ⟨Nat.le_of_ble_eq_true rfl, Nat.le_of_ble_eq_true rfl⟩ hl.1 rfl (Nat.le_of_ble_eq_true rfl) dX8_rush_31 ⟨Nat.zero_le _, Nat.zero_le _⟩ (fun r10 i10 g10 H locs hq hT hS => ?_)
          obtain ⟨hR10, hf10, hr10⟩ := hq
          have hF10 := Fr_tr hF5 hf10 (by decide)
          refine e_mmax X hl.1 gm_856 gm_782 gm_118 mw_e_mmax (Nat.le_of_ble_eq_true rfl) (Nat.le_of_ble_eq_true rfl) ⟨Nat.zero_le _, Nat.zero_le _⟩ dX8_rush_34 (fun x11 ex11 => ?_)
          have h12 : rg 0 63 x11 := rg_mx ex11 hhx17_1 hr10 (by decide)
          refine lv_istore_n (lv' := [(1, .int x11), (0, .ref (h 0)), (2, .int x17_2)]) hx hb dX8_rush_37 rfl hl (by decide) rfl (fun ls hl => ?_)
          obtain ⟨x13, ex13⟩ : ∃ y : Int32, y = x17_2 + 1 := ⟨_, rfl⟩
          refine lv_iinc (v := x13) (lv' := [(2, .int x13), (1, .int x11), (0, .ref (h 0))]) hx hb dX8_rush_38 hl (k := 2) rfl (by rw [ex13]; rfl) (by decide) rfl (fun ls hl => ?_)
          obtain ⟨hx13, ax13⟩ := rg_add 1 12 ex13 h8 (rg_k (by decide) : rg 1 1 1) (by decide)
          replace ax13 : x13.toInt = x17_2.toInt + 1 := ax13
          refine lv_goto (tgt := 17) hx hb dX8_rush_41 (by decide) ?_
          exact ih6_ x11 x13 i10 g10 _ _ _ h12 (rg_w hx13 (by decide) : rg 0 12 x13) hR10 hF10 hT hS (lv_sub hl [2, 1, 0] rfl) (m_up ax13 hx13 (by decide) hm6_)
    exact L17_4 _ (0) (0) i g _ _ _ (rg_w (rg_k (by decide) : rg 0 0 0) (by decide) : rg 0 63 0) (rg_w (rg_k (by decide) : rg 0 0 0) (by decide) : rg 0 12 0) hR hF hT hS (lv_sub hl [2, 1, 0] rfl) (Nat.lt_succ_self _)
  ·
    have q2 : r1.toInt = 0 := i_eq c2
    have h14 : rg 0 0 r1 := t_eqx 0 0 hr1 (rg_k (by decide) : rg 0 0 0) (i_eq c2) (by decide)
    refine lv_bipush (v := (-2)) hx hb dX8_rush_10 (by decide) ?_
    exact hret (-2) _ _ _ _ _ _ dX8_rush_12 hT hS ⟨hR, hF, (rg_w (rg_k (by decide) : rg (-2) (-2) (-2)) (by decide) : rg (-2) 63 (-2))⟩
set_option maxRecDepth 100000 in
set_option maxHeartbeats 4000000 in
theorem m_X8_with {l : Launch} {D : va_G} {h : Nat → Nat} {cz : Nat → ClassId} {z : EZ} {i : Nat → Nat → Int32} {g : Nat → Nat → Int64} (hR : Rg rA i) (a_a : Int32) : DtI l yX8_with cX8_with 4 (some .int) ({ frames := 5, cells := 0, slots := 0, locals := 110 } : Room) D h cz z i g [.ref (h 0), .int a_a] (fun r u => Rg rA u.1 ∧ Fr [0, 65, 66, 67, 68, 69, 70] [] i g u) := by
  refine e_I pn_X8_with (Nat.le_of_ble_eq_true rfl) ?_
  intro p e s m args below meth c ls Q X Y hret hT hl hS
  have hx := X.1
  have hb := X.2.1
  have hl : lv_has ls 4 [(0, .ref (h 0)), (1, .int a_a)] := hl
  have hF : Fr [0, 65, 66, 67, 68, 69, 70] [] i g (i, g) := Fr_rf _ _ _ _
  refine lv_aload_n hx hb dX8_with_0 rfl (lv_at hl 0 rfl) ?_
  refine r_getr X hT 0 3 15 fk_8_32 rfl rfl (by decide) dX8_with_1 ?_
  refine lv_iload_n hx hb dX8_with_4 rfl (lv_at hl 1 rfl) ?_
  refine e_Vi (As := [.int a_a]) (rest := []) X Y hT hS (m_X6_hasPart_15 hR a_a) mk_X6_hasPart gm_669 rfl rfl (by decide) hd_X6_hasPart ⟨rfl, rfl⟩ ⟨Nat.le_of_ble_eq_true rfl, Nat.le_of_ble_eq_true rfl⟩ hl.1 rfl (Nat.le_of_ble_eq_true rfl) dX8_with_5 ⟨Nat.zero_le _, Nat.zero_le _⟩ (fun r1 i1 g1 H locs hq hT hS => ?_)
  rcases hq with hq | hq
  ·
    obtain ⟨eh1, rfl, hf1_0⟩ := hq
    rw [(Prod.mk.inj eh1).1, (Prod.mk.inj eh1).2] at hT
    have h2 : rg 0 5 a_a := ⟨by have := (rg_top a_a).1; have := hf1_0.1; omega, by have := (rg_top a_a).2; have := hf1_0.2; omega⟩
    refine lv_if_ne (tgt := 14) hx hb dX8_with_8 (by decide) (fun c3 => ?_) (fun c3 => (x_eq (rg_k (by decide) : rg 1 1 1) (rg_k (by decide) : rg 0 0 0) (i_eq c3) (by decide)).elim)
    refine lv_aload_n hx hb dX8_with_14 rfl (lv_at hl 0 rfl) ?_
    refine e_Vr (As := []) (rest := []) X Y hT hS (m_X8_current hR) mk_X8_current gm_736 rfl rfl (by decide) hd_X8_current ⟨rfl, rfl⟩ ⟨Nat.le_of_ble_eq_true rfl, Nat.le_of_ble_eq_true rfl⟩ hl.1 rfl (Nat.le_of_ble_eq_true rfl) dX8_with_15 ⟨Nat.zero_le _, Nat.zero_le _⟩ (fun i4 g4 H locs hq hT hS => ?_)
    obtain ⟨hR4, hf4⟩ := hq
    have hF4 := Fr_tr hF hf4 (by decide)
    refine lv_astore_n (lv' := [(2, .ref (h 65)), (0, .ref (h 0)), (1, .int a_a)]) hx hb dX8_with_18 rfl hl (by decide) rfl (fun ls hl => ?_)
    refine lv_aload_n hx hb dX8_with_19 rfl (lv_at hl 0 rfl) ?_
    refine lv_iload_n hx hb dX8_with_20 rfl (lv_at hl 2 rfl) ?_
    refine e_Vi (As := [.int a_a]) (rest := []) X Y hT hS (m_X0_openingYear_65 hR4 a_a h2) mk_X0_openingYear gm_807 rfl rfl (by decide) hd_X0_openingYear ⟨rfl, rfl⟩ ⟨Nat.le_of_ble_eq_true rfl, Nat.le_of_ble_eq_true rfl⟩ hl.1 rfl (Nat.le_of_ble_eq_true rfl) dX8_with_21 ⟨Nat.zero_le _, Nat.zero_le _⟩ (fun r5 i5 g5 H locs hq hT hS => ?_)
    have eh5 := hq
    rw [(Prod.mk.inj eh5).1, (Prod.mk.inj eh5).2] at hT
    refine lv_istore_n (lv' := [(3, .int r5), (2, .ref (h 65)), (0, .ref (h 0)), (1, .int a_a)]) hx hb dX8_with_24 rfl hl (by decide) rfl (fun ls hl => ?_)
    refine lv_iload_n hx hb dX8_with_25 rfl (lv_at hl 0 rfl) ?_
    refine lv_iconst (v := (-1)) hx hb dX8_with_26 (by decide) ?_
    refine lv_icmp_ne (tgt := 32) hx hb dX8_with_27 (by decide) (fun c6 => ?_) (fun c6 => ?_)
    ·
      have q6 : ¬ r5.toInt = (-1) := i_ne c6
      refine lv_aload_n hx hb dX8_with_32 rfl (lv_at hl 1 rfl) ?_
      refine r_geti X hT 65 9 fk_8_205 rfl rfl (by decide) dX8_with_33 ?_
      refine lv_aload_n hx hb dX8_with_36 rfl (lv_at hl 1 rfl) ?_
      refine lv_iload_n hx hb dX8_with_37 rfl (lv_at hl 0 rfl) ?_
      refine lv_iconst (v := 1) hx hb dX8_with_38 (by decide) ?_
      refine q_iadd hx hb dX8_with_39 (fun x7 ex7 => ?_)
      refine e_Vi (As := [.int x7]) (rest := [.int (i4 65 9)]) X Y hT hS (m_X0_openIn_65 hR4 x7) mk_X0_openIn gm_799 rfl rfl (by decide) hd_X0_openIn ⟨rfl, rfl⟩ ⟨Nat.le_of_ble_eq_true rfl, Nat.le_of_ble_eq_true rfl⟩ hl.1 rfl (Nat.le_of_ble_eq_true rfl) dX8_with_40 ⟨Nat.zero_le _, Nat.zero_le _⟩ (fun r8 i8 g8 H locs hq hT hS => ?_)
      have eh8 := hq
      rw [(Prod.mk.inj eh8).1, (Prod.mk.inj eh8).2] at hT
      refine q_iand hx hb dX8_with_43 (fun x9 ex9 => ?_)
      refine lv_aload_n hx hb dX8_with_44 rfl (lv_at hl 1 rfl) ?_
      refine lv_iload_n hx hb dX8_with_45 rfl (lv_at hl 0 rfl) ?_
      refine e_Vi (As := [.int r5]) (rest := [.int x9]) X Y hT hS (m_X0_openIn_65 hR4 r5) mk_X0_openIn gm_799 rfl rfl (by decide) hd_X0_openIn ⟨rfl, rfl⟩ ⟨Nat.le_of_ble_eq_true rfl, Nat.le_of_ble_eq_true rfl⟩ hl.1 rfl (Nat.le_of_ble_eq_true rfl) dX8_with_46 ⟨Nat.zero_le _, Nat.zero_le _⟩ (fun r10 i10 g10 H locs hq hT hS => ?_)
      have eh10 := hq
      rw [(Prod.mk.inj eh10).1, (Prod.mk.inj eh10).2] at hT
      refine lv_iconst (v := (-1)) hx hb dX8_with_49 (by decide) ?_
      refine q_ixor hx hb dX8_with_50 (fun x11 ex11 => ?_)
      refine q_iand hx hb dX8_with_51 (fun x12 ex12 => ?_)
      exact hret x12 _ _ _ _ _ _ dX8_with_52 hT hS ⟨hR4, hF4⟩
    ·
      have q6 : r5.toInt = (-1) := i_eq c6
      have h13 : rg (-1) (-1) r5 := t_eqx (-1) (-1) (rg_top r5) (rg_k (by decide) : rg (-1) (-1) (-1)) (i_eq c6) (by decide)
      refine lv_iconst (v := 0) hx hb dX8_with_30 (by decide) ?_
      exact hret 0 _ _ _ _ _ _ dX8_with_31 hT hS ⟨hR4, hF4⟩
  ·
    obtain ⟨eh1, rfl⟩ := hq
    rw [(Prod.mk.inj eh1).1, (Prod.mk.inj eh1).2] at hT
    refine lv_if_ne (tgt := 14) hx hb dX8_with_8 (by decide) (fun c14 => (x_ne (rg_k (by decide) : rg 0 0 0) (rg_k (by decide) : rg 0 0 0) (i_ne c14) (by decide)).elim) (fun c14 => ?_)
    refine lv_bipush (v := (-2)) hx hb dX8_with_11 (by decide) ?_
    exact hret (-2) _ _ _ _ _ _ dX8_with_13 hT hS ⟨hR, hF⟩
set_option maxRecDepth 100000 in
set_option maxHeartbeats 4000000 in
theorem m_X8_charms {l : Launch} {D : va_G} {h : Nat → Nat} {cz : Nat → ClassId} {z : EZ} {i : Nat → Nat → Int32} {g : Nat → Nat → Int64} (hR : Rg rA i) : DtI l yX8_charms cX8_charms 4 (some .int) ({ frames := 6, cells := 0, slots := 0, locals := 130 } : Room) D h cz z i g [.ref (h 0)] (fun r u => Rg rA u.1 ∧ Fr [0, 65, 66, 67, 68, 69, 70] [] i g u) := by
  refine e_I pn_X8_charms (Nat.le_of_ble_eq_true rfl) ?_
  intro p e s m args below meth c ls Q X Y hret hT hl hS
  have hx := X.1
  have hb := X.2.1
  have hl : lv_has ls 4 [(0, .ref (h 0))] := hl
  have hF : Fr [0, 65, 66, 67, 68, 69, 70] [] i g (i, g) := Fr_rf _ _ _ _
  refine lv_aload_n hx hb dX8_charms_0 rfl (lv_at hl 0 rfl) ?_
  refine r_getr X hT 0 3 15 fk_8_32 rfl rfl (by decide) dX8_charms_1 ?_
  refine e_Vi (As := []) (rest := []) X Y hT hS (m_X6_isTold_15 hR) mk_X6_isTold gm_698 rfl rfl (by decide) hd_X6_isTold ⟨rfl, rfl⟩ ⟨Nat.le_of_ble_eq_true rfl, Nat.le_of_ble_eq_true rfl⟩ hl.1 rfl (Nat.le_of_ble_eq_true rfl) dX8_charms_4 ⟨Nat.zero_le _, Nat.zero_le _⟩ (fun r1 i1 g1 H locs hq hT hS => ?_)
  obtain ⟨eh1, hr1⟩ := hq
  rw [(Prod.mk.inj eh1).1, (Prod.mk.inj eh1).2] at hT
  refine lv_if_ne (tgt := 13) hx hb dX8_charms_7 (by decide) (fun c2 => ?_) (fun c2 => ?_)
  ·
    have q2 : ¬ r1.toInt = 0 := i_ne c2
    have h3 : rg 1 1 r1 := t_nelo 1 hr1 (rg_k (by decide) : rg 0 0 0) (i_ne c2) (by decide)
    refine lv_aload_n hx hb dX8_charms_13 rfl (lv_at hl 0 rfl) ?_
    refine e_Vi (As := []) (rest := []) X Y hT hS (m_X8_shutAtLast hR) mk_X8_shutAtLast gm_909 rfl rfl (by decide) hd_X8_shutAtLast ⟨rfl, rfl⟩ ⟨Nat.le_of_ble_eq_true rfl, Nat.le_of_ble_eq_true rfl⟩ hl.1 rfl (Nat.le_of_ble_eq_true rfl) dX8_charms_14 ⟨Nat.zero_le _, Nat.zero_le _⟩ (fun r4 i4 g4 H locs hq hT hS => ?_)
    obtain ⟨hR4, hf4, hr4⟩ := hq
    have hF4 := Fr_tr hF hf4 (by decide)
    refine lv_istore_n (lv' := [(1, .int r4), (0, .ref (h 0))]) hx hb dX8_charms_17 rfl hl (by decide) rfl (fun ls hl => ?_)
    refine lv_iconst (v := 0) hx hb dX8_charms_18 (by decide) ?_
    refine lv_istore_n (lv' := [(2, .int 0), (1, .int r4), (0, .ref (h 0))]) hx hb dX8_charms_19 rfl hl (by decide) rfl (fun ls hl => ?_)
    refine lv_iconst (v := 0) hx hb dX8_charms_20 (by decide) ?_
    refine lv_istore_n (lv' := [(3, .int 0), (2, .int 0), (1, .int r4), (0, .ref (h 0))]) hx hb dX8_charms_21 rfl hl (by decide) rfl (fun ls hl => ?_)
    have L22_5 : ∀ (n6_ : Nat) (x22_2 : Int32) (x22_3 : Int32) (H : Heap) (locs : List Loc) (ls : Array Slot), rg 0 6 x22_3 → TH D h cz i4 g4 H → va_S (hA h) s.heap H locs → lv_has ls 4 [(0, .ref (h 0)), (1, .int r4), (2, .int x22_2), (3, .int x22_3)] → (6 - x22_3.toInt).toNat < n6_ → W p l e ({ frames := 6, cells := 0, slots := 0, locals := 130 } : Room) s m args below meth c H locs 0 0 Q (F0 m 22 ls []) := by
      intro n6_
      induction n6_ with
      | zero => intro x22_2 x22_3 H locs ls hhx22_3 hT hS hl hm6_; exact absurd hm6_ (Nat.not_lt_zero _)
      | succ n6_ ih6_ =>
        intro x22_2 x22_3 H locs ls hhx22_3 hT hS hl hm6_
        refine lv_iload_n hx hb dX8_charms_22 rfl (lv_at hl 3 rfl) ?_
        refine lv_aload_n hx hb dX8_charms_23 rfl (lv_at hl 0 rfl) ?_
        refine r_getr X hT 0 3 15 fk_8_32 rfl rfl (by decide) dX8_charms_24 ?_
        refine r_geti X hT 15 13 fk_8_156 rfl rfl (by decide) dX8_charms_27 ?_
        refine lv_icmp_ge (tgt := 63) hx hb dX8_charms_30 (by decide) (fun c7 => ?_) (fun c7 => ?_)
        ·
          have q7 : (i4 15 13).toInt ≤ x22_3.toInt := i_le c7
          refine lv_iload_n hx hb dX8_charms_63 rfl (lv_at hl 2 rfl) ?_
          exact hret x22_2 _ _ _ _ _ _ dX8_charms_64 hT hS ⟨hR4, hF4⟩
        ·
          have q7 : x22_3.toInt < (i4 15 13).toInt := i_nle c7
          have h8 : rg 0 5 x22_3 := t_ltx 0 5 hhx22_3 (Rg_at hR4 15 13 0 6 (by decide) rfl) (i_nle c7) (by decide)
          have h9 : rg 1 6 (i4 15 13) := t_lty 1 6 hhx22_3 (Rg_at hR4 15 13 0 6 (by decide) rfl) (i_nle c7) (by decide)
          refine lv_iload_n hx hb dX8_charms_33 rfl (lv_at hl 2 rfl) ?_
          refine lv_iload_n hx hb dX8_charms_34 rfl (lv_at hl 1 rfl) ?_
          refine lv_iload_n hx hb dX8_charms_35 rfl (lv_at hl 3 rfl) ?_
          refine e_Si (As := [.int r4, .int x22_3]) (rest := [.int x22_2]) X Y hT hS (m_X8_hasBit r4 x22_3) sk_X8_hasBit gm_685 hd_X8_hasBit ⟨rfl, rfl⟩ ⟨Nat.le_of_ble_eq_true rfl, Nat.le_of_ble_eq_true rfl⟩ hl.1 rfl (Nat.le_of_ble_eq_true rfl) dX8_charms_36 ⟨Nat.zero_le _, Nat.zero_le _⟩ (fun r10 i10 g10 H locs hq hT hS => ?_)
          obtain ⟨eh10, hr10⟩ := hq
          rw [(Prod.mk.inj eh10).1, (Prod.mk.inj eh10).2] at hT
          refine lv_if_eq (tgt := 54) hx hb dX8_charms_39 (by decide) (fun c11 => ?_) (fun c11 => ?_)
          ·
            have q11 : r10.toInt = 0 := i_eq c11
            have h12 : rg 0 0 r10 := t_eqx 0 0 hr10 (rg_k (by decide) : rg 0 0 0) (i_eq c11) (by decide)
            refine lv_iconst (v := 0) hx hb dX8_charms_54 (by decide) ?_
            refine q_iadd hx hb dX8_charms_55 (fun x13 ex13 => ?_)
            obtain ⟨hx13, ax13⟩ := rg_add (-2147483648) 2147483647 ex13 (rg_top x22_2) (rg_k (by decide) : rg 0 0 0) (by decide)
            replace ax13 : x13.toInt = x22_2.toInt + 0 := ax13
            refine lv_istore_n (lv' := [(2, .int x13), (0, .ref (h 0)), (1, .int r4), (3, .int x22_3)]) hx hb dX8_charms_56 rfl hl (by decide) rfl (fun ls hl => ?_)
            obtain ⟨x14, ex14⟩ : ∃ y : Int32, y = x22_3 + 1 := ⟨_, rfl⟩
            refine lv_iinc (v := x14) (lv' := [(3, .int x14), (2, .int x13), (0, .ref (h 0)), (1, .int r4)]) hx hb dX8_charms_57 hl (k := 3) rfl (by rw [ex14]; rfl) (by decide) rfl (fun ls hl => ?_)
            obtain ⟨hx14, ax14⟩ := rg_add 1 6 ex14 h8 (rg_k (by decide) : rg 1 1 1) (by decide)
            replace ax14 : x14.toInt = x22_3.toInt + 1 := ax14
            refine lv_goto (tgt := 22) hx hb dX8_charms_60 (by decide) ?_
            exact ih6_ x13 x14 _ _ _ (rg_w hx14 (by decide) : rg 0 6 x14) hT hS (lv_sub hl [2, 3, 1, 0] rfl) (m_up ax14 hx14 (by decide) hm6_)
          ·
            have q11 : ¬ r10.toInt = 0 := i_ne c11
            have h15 : rg 1 1 r10 := t_nelo 1 hr10 (rg_k (by decide) : rg 0 0 0) (i_ne c11) (by decide)
            refine lv_aload_n hx hb dX8_charms_42 rfl (lv_at hl 0 rfl) ?_
            refine r_getr X hT 0 3 15 fk_8_32 rfl rfl (by decide) dX8_charms_43 ?_
            refine r_getr X hT 15 0 16 fk_8_131 rfl rfl (by decide) dX8_charms_46 ?_
            refine lv_iload_n hx hb dX8_charms_49 rfl (lv_at hl 3 rfl) ?_
            refine r_iald X hT 16 rfl (by decide) (v_in h8 (by decide)) dX8_charms_50 ?_
            refine lv_goto (tgt := 55) hx hb dX8_charms_51 (by decide) ?_
            refine q_iadd hx hb dX8_charms_55 (fun x16 ex16 => ?_)
            refine lv_istore_n (lv' := [(2, .int x16), (0, .ref (h 0)), (1, .int r4), (3, .int x22_3)]) hx hb dX8_charms_56 rfl hl (by decide) rfl (fun ls hl => ?_)
            obtain ⟨x17, ex17⟩ : ∃ y : Int32, y = x22_3 + 1 := ⟨_, rfl⟩
            refine lv_iinc (v := x17) (lv' := [(3, .int x17), (2, .int x16), (0, .ref (h 0)), (1, .int r4)]) hx hb dX8_charms_57 hl (k := 3) rfl (by rw [ex17]; rfl) (by decide) rfl (fun ls hl => ?_)
            obtain ⟨hx17, ax17⟩ := rg_add 1 6 ex17 h8 (rg_k (by decide) : rg 1 1 1) (by decide)
            replace ax17 : x17.toInt = x22_3.toInt + 1 := ax17
            refine lv_goto (tgt := 22) hx hb dX8_charms_60 (by decide) ?_
            exact ih6_ x16 x17 _ _ _ (rg_w hx17 (by decide) : rg 0 6 x17) hT hS (lv_sub hl [2, 3, 1, 0] rfl) (m_up ax17 hx17 (by decide) hm6_)
    exact L22_5 _ (0) (0) _ _ _ (rg_w (rg_k (by decide) : rg 0 0 0) (by decide) : rg 0 6 0) hT hS (lv_sub hl [3, 2, 1, 0] rfl) (Nat.lt_succ_self _)
  ·
    have q2 : r1.toInt = 0 := i_eq c2
    have h18 : rg 0 0 r1 := t_eqx 0 0 hr1 (rg_k (by decide) : rg 0 0 0) (i_eq c2) (by decide)
    refine lv_bipush (v := (-2)) hx hb dX8_charms_10 (by decide) ?_
    exact hret (-2) _ _ _ _ _ _ dX8_charms_12 hT hS ⟨hR, hF⟩
set_option maxRecDepth 100000 in
set_option maxHeartbeats 4000000 in
theorem m_X8_best {l : Launch} {D : va_G} {h : Nat → Nat} {cz : Nat → ClassId} {z : EZ} {i : Nat → Nat → Int32} {g : Nat → Nat → Int64} (hR : Rg rA i) (a_a : Int32) : DtI l yX8_best cX8_best 4 (some .int) ({ frames := 5, cells := 0, slots := 0, locals := 111 } : Room) D h cz z i g [.ref (h 0), .int a_a] (fun r u => Rg rA u.1 ∧ Fr [0, 65, 66, 67, 68, 69, 70, 71] [] i g u ∧ rg (-2) 60 r) := by
  refine e_I pn_X8_best (Nat.le_of_ble_eq_true rfl) ?_
  intro p e s m args below meth c ls Q X Y hret hT hl hS
  have hx := X.1
  have hb := X.2.1
  have hl : lv_has ls 4 [(0, .ref (h 0)), (1, .int a_a)] := hl
  have hF : Fr [0, 65, 66, 67, 68, 69, 70, 71] [] i g (i, g) := Fr_rf _ _ _ _
  refine lv_aload_n hx hb dX8_best_0 rfl (lv_at hl 0 rfl) ?_
  refine r_getr X hT 0 3 15 fk_8_32 rfl rfl (by decide) dX8_best_1 ?_
  refine lv_iload_n hx hb dX8_best_4 rfl (lv_at hl 1 rfl) ?_
  refine e_Vi (As := [.int a_a]) (rest := []) X Y hT hS (m_X6_hasPart_15 hR a_a) mk_X6_hasPart gm_669 rfl rfl (by decide) hd_X6_hasPart ⟨rfl, rfl⟩ ⟨Nat.le_of_ble_eq_true rfl, Nat.le_of_ble_eq_true rfl⟩ hl.1 rfl (Nat.le_of_ble_eq_true rfl) dX8_best_5 ⟨Nat.zero_le _, Nat.zero_le _⟩ (fun r1 i1 g1 H locs hq hT hS => ?_)
  rcases hq with hq | hq
  ·
    obtain ⟨eh1, rfl, hf1_0⟩ := hq
    rw [(Prod.mk.inj eh1).1, (Prod.mk.inj eh1).2] at hT
    have h2 : rg 0 5 a_a := ⟨by have := (rg_top a_a).1; have := hf1_0.1; omega, by have := (rg_top a_a).2; have := hf1_0.2; omega⟩
    refine lv_if_ne (tgt := 14) hx hb dX8_best_8 (by decide) (fun c3 => ?_) (fun c3 => (x_eq (rg_k (by decide) : rg 1 1 1) (rg_k (by decide) : rg 0 0 0) (i_eq c3) (by decide)).elim)
    refine lv_iconst (v := 0) hx hb dX8_best_14 (by decide) ?_
    refine lv_istore_n (lv' := [(2, .int 0), (0, .ref (h 0)), (1, .int a_a)]) hx hb dX8_best_15 rfl hl (by decide) rfl (fun ls hl => ?_)
    refine lv_iconst (v := 0) hx hb dX8_best_16 (by decide) ?_
    refine lv_istore_n (lv' := [(3, .int 0), (2, .int 0), (0, .ref (h 0)), (1, .int a_a)]) hx hb dX8_best_17 rfl hl (by decide) rfl (fun ls hl => ?_)
    have L18_4 : ∀ (n6_ : Nat) (x18_2 : Int32) (x18_3 : Int32) (i5 : Nat → Nat → Int32) (g5 : Nat → Nat → Int64) (H : Heap) (locs : List Loc) (ls : Array Slot), rg 0 60 x18_2 → rg 0 13 x18_3 → Rg rA i5 → Fr [0, 65, 66, 67, 68, 69, 70, 71] [] i g (i5, g5) → TH D h cz i5 g5 H → va_S (hA h) s.heap H locs → lv_has ls 4 [(0, .ref (h 0)), (1, .int a_a), (2, .int x18_2), (3, .int x18_3)] → (13 - x18_3.toInt).toNat < n6_ → W p l e ({ frames := 5, cells := 0, slots := 0, locals := 111 } : Room) s m args below meth c H locs 0 0 Q (F0 m 18 ls []) := by
      intro n6_
      induction n6_ with
      | zero => intro x18_2 x18_3 i5 g5 H locs ls hhx18_2 hhx18_3 hR5 hF5 hT hS hl hm6_; exact absurd hm6_ (Nat.not_lt_zero _)
      | succ n6_ ih6_ =>
        intro x18_2 x18_3 i5 g5 H locs ls hhx18_2 hhx18_3 hR5 hF5 hT hS hl hm6_
        refine lv_iload_n hx hb dX8_best_18 rfl (lv_at hl 3 rfl) ?_
        refine lv_aload_n hx hb dX8_best_19 rfl (lv_at hl 0 rfl) ?_
        refine r_getr X hT 0 3 15 fk_8_32 rfl rfl (by decide) dX8_best_20 ?_
        refine r_geti X hT 15 10 fk_8_168 rfl rfl (by decide) dX8_best_23 ?_
        refine lv_icmp_gt (tgt := 49) hx hb dX8_best_26 (by decide) (fun c7 => ?_) (fun c7 => ?_)
        ·
          have q7 : (i5 15 10).toInt < x18_3.toInt := i_lt c7
          refine lv_iload_n hx hb dX8_best_49 rfl (lv_at hl 2 rfl) ?_
          exact hret x18_2 _ _ _ _ _ _ dX8_best_50 hT hS ⟨hR5, hF5, (rg_w hhx18_2 (by decide) : rg (-2) 60 x18_2)⟩
        ·
          have q7 : x18_3.toInt ≤ (i5 15 10).toInt := i_nlt c7
          have h8 : rg 0 12 x18_3 := t_lex 0 12 hhx18_3 (Rg_at hR5 15 10 (-1) 12 (by decide) rfl) (i_nlt c7) (by decide)
          have h9 : rg 0 12 (i5 15 10) := t_ley 0 12 hhx18_3 (Rg_at hR5 15 10 (-1) 12 (by decide) rfl) (i_nlt c7) (by decide)
          refine lv_iload_n hx hb dX8_best_29 rfl (lv_at hl 2 rfl) ?_
          refine lv_aload_n hx hb dX8_best_30 rfl (lv_at hl 0 rfl) ?_
          refine e_Vr (As := []) (rest := [.int x18_2]) X Y hT hS (m_X8_current hR5) mk_X8_current gm_736 rfl rfl (by decide) hd_X8_current ⟨rfl, rfl⟩ ⟨Nat.le_of_ble_eq_true rfl, Nat.le_of_ble_eq_true rfl⟩ hl.1 rfl (Nat.le_of_ble_eq_true rfl) dX8_best_31 ⟨Nat.zero_le _, Nat.zero_le _⟩ (fun i10 g10 H locs hq hT hS => ?_)
          obtain ⟨hR10, hf10⟩ := hq
          have hF10 := Fr_tr hF5 hf10 (by decide)
          refine lv_iload_n hx hb dX8_best_34 rfl (lv_at hl 1 rfl) ?_
          refine lv_iload_n hx hb dX8_best_35 rfl (lv_at hl 3 rfl) ?_
          refine e_Vi (As := [.int a_a, .int x18_3]) (rest := [.int x18_2]) X Y hT hS (m_X0_shutWorth_65 hR10 a_a x18_3 h2 h8) mk_X0_shutWorth gm_848 rfl rfl (by decide) hd_X0_shutWorth ⟨rfl, rfl⟩ ⟨Nat.le_of_ble_eq_true rfl, Nat.le_of_ble_eq_true rfl⟩ hl.1 rfl (Nat.le_of_ble_eq_true rfl) dX8_best_36 ⟨Nat.zero_le _, Nat.zero_le _⟩ (fun r11 i11 g11 H locs hq hT hS => ?_)
          obtain ⟨hR11, hf11, hr11⟩ := hq
          have hF11 := Fr_tr hF10 hf11 (by decide)
          refine e_mmax X hl.1 gm_856 gm_782 gm_118 mw_e_mmax (Nat.le_of_ble_eq_true rfl) (Nat.le_of_ble_eq_true rfl) ⟨Nat.zero_le _, Nat.zero_le _⟩ dX8_best_39 (fun x12 ex12 => ?_)
          have h13 : rg 0 60 x12 := rg_mx ex12 hhx18_2 hr11 (by decide)
          refine lv_istore_n (lv' := [(2, .int x12), (0, .ref (h 0)), (1, .int a_a), (3, .int x18_3)]) hx hb dX8_best_42 rfl hl (by decide) rfl (fun ls hl => ?_)
          obtain ⟨x14, ex14⟩ : ∃ y : Int32, y = x18_3 + 1 := ⟨_, rfl⟩
          refine lv_iinc (v := x14) (lv' := [(3, .int x14), (2, .int x12), (0, .ref (h 0)), (1, .int a_a)]) hx hb dX8_best_43 hl (k := 3) rfl (by rw [ex14]; rfl) (by decide) rfl (fun ls hl => ?_)
          obtain ⟨hx14, ax14⟩ := rg_add 1 13 ex14 h8 (rg_k (by decide) : rg 1 1 1) (by decide)
          replace ax14 : x14.toInt = x18_3.toInt + 1 := ax14
          refine lv_goto (tgt := 18) hx hb dX8_best_46 (by decide) ?_
          exact ih6_ x12 x14 i11 g11 _ _ _ h13 (rg_w hx14 (by decide) : rg 0 13 x14) hR11 hF11 hT hS (lv_sub hl [2, 3, 1, 0] rfl) (m_up ax14 hx14 (by decide) hm6_)
    exact L18_4 _ (0) (0) i g _ _ _ (rg_w (rg_k (by decide) : rg 0 0 0) (by decide) : rg 0 60 0) (rg_w (rg_k (by decide) : rg 0 0 0) (by decide) : rg 0 13 0) hR hF hT hS (lv_sub hl [2, 3, 1, 0] rfl) (Nat.lt_succ_self _)
  ·
    obtain ⟨eh1, rfl⟩ := hq
    rw [(Prod.mk.inj eh1).1, (Prod.mk.inj eh1).2] at hT
    refine lv_if_ne (tgt := 14) hx hb dX8_best_8 (by decide) (fun c15 => (x_ne (rg_k (by decide) : rg 0 0 0) (rg_k (by decide) : rg 0 0 0) (i_ne c15) (by decide)).elim) (fun c15 => ?_)
    refine lv_bipush (v := (-2)) hx hb dX8_best_11 (by decide) ?_
    exact hret (-2) _ _ _ _ _ _ dX8_best_13 hT hS ⟨hR, hF, (rg_w (rg_k (by decide) : rg (-2) (-2) (-2)) (by decide) : rg (-2) 60 (-2))⟩
set_option maxRecDepth 100000 in
set_option maxHeartbeats 4000000 in
theorem m_X8_peak {l : Launch} {D : va_G} {h : Nat → Nat} {cz : Nat → ClassId} {z : EZ} {i : Nat → Nat → Int32} {g : Nat → Nat → Int64} (hR : Rg rA i) : DtI l yX8_peak cX8_peak 5 (some .int) ({ frames := 5, cells := 0, slots := 0, locals := 134 } : Room) D h cz z i g [.ref (h 0)] (fun r u => Rg rA u.1 ∧ Fr [0, 65, 66, 67, 68, 69, 70, 71] [] i g u ∧ rg (-2) 11 r) := by
  refine e_I pn_X8_peak (Nat.le_of_ble_eq_true rfl) ?_
  intro p e s m args below meth c ls Q X Y hret hT hl hS
  have hx := X.1
  have hb := X.2.1
  have hl : lv_has ls 5 [(0, .ref (h 0))] := hl
  have hF : Fr [0, 65, 66, 67, 68, 69, 70, 71] [] i g (i, g) := Fr_rf _ _ _ _
  refine lv_aload_n hx hb dX8_peak_0 rfl (lv_at hl 0 rfl) ?_
  refine r_getr X hT 0 3 15 fk_8_32 rfl rfl (by decide) dX8_peak_1 ?_
  refine e_Vi (As := []) (rest := []) X Y hT hS (m_X6_isTold_15 hR) mk_X6_isTold gm_698 rfl rfl (by decide) hd_X6_isTold ⟨rfl, rfl⟩ ⟨Nat.le_of_ble_eq_true rfl, Nat.le_of_ble_eq_true rfl⟩ hl.1 rfl (Nat.le_of_ble_eq_true rfl) dX8_peak_4 ⟨Nat.zero_le _, Nat.zero_le _⟩ (fun r1 i1 g1 H locs hq hT hS => ?_)
  obtain ⟨eh1, hr1⟩ := hq
  rw [(Prod.mk.inj eh1).1, (Prod.mk.inj eh1).2] at hT
  refine lv_if_ne (tgt := 13) hx hb dX8_peak_7 (by decide) (fun c2 => ?_) (fun c2 => ?_)
  ·
    have q2 : ¬ r1.toInt = 0 := i_ne c2
    have h3 : rg 1 1 r1 := t_nelo 1 hr1 (rg_k (by decide) : rg 0 0 0) (i_ne c2) (by decide)
    refine lv_iconst (v := 0) hx hb dX8_peak_13 (by decide) ?_
    refine lv_istore_n (lv' := [(1, .int 0), (0, .ref (h 0))]) hx hb dX8_peak_14 rfl hl (by decide) rfl (fun ls hl => ?_)
    refine lv_iconst (v := (-1)) hx hb dX8_peak_15 (by decide) ?_
    refine lv_istore_n (lv' := [(2, .int (-1)), (1, .int 0), (0, .ref (h 0))]) hx hb dX8_peak_16 rfl hl (by decide) rfl (fun ls hl => ?_)
    refine lv_iconst (v := 0) hx hb dX8_peak_17 (by decide) ?_
    refine lv_istore_n (lv' := [(3, .int 0), (2, .int (-1)), (1, .int 0), (0, .ref (h 0))]) hx hb dX8_peak_18 rfl hl (by decide) rfl (fun ls hl => ?_)
    have L19_4 : ∀ (n6_ : Nat) (x19_1 : Int32) (x19_2 : Int32) (x19_3 : Int32) (i5 : Nat → Nat → Int32) (g5 : Nat → Nat → Int64) (H : Heap) (locs : List Loc) (ls : Array Slot), rg 0 11 x19_1 → rg (-1) 2147483647 x19_2 → rg 0 12 x19_3 → Rg rA i5 → Fr [0, 65, 66, 67, 68, 69, 70, 71] [] i g (i5, g5) → TH D h cz i5 g5 H → va_S (hA h) s.heap H locs → lv_has ls 5 [(0, .ref (h 0)), (1, .int x19_1), (2, .int x19_2), (3, .int x19_3)] → (12 - x19_3.toInt).toNat < n6_ → W p l e ({ frames := 5, cells := 0, slots := 0, locals := 134 } : Room) s m args below meth c H locs 0 0 Q (F0 m 19 ls []) := by
      intro n6_
      induction n6_ with
      | zero => intro x19_1 x19_2 x19_3 i5 g5 H locs ls hhx19_1 hhx19_2 hhx19_3 hR5 hF5 hT hS hl hm6_; exact absurd hm6_ (Nat.not_lt_zero _)
      | succ n6_ ih6_ =>
        intro x19_1 x19_2 x19_3 i5 g5 H locs ls hhx19_1 hhx19_2 hhx19_3 hR5 hF5 hT hS hl hm6_
        refine lv_iload_n hx hb dX8_peak_19 rfl (lv_at hl 3 rfl) ?_
        refine lv_aload_n hx hb dX8_peak_20 rfl (lv_at hl 0 rfl) ?_
        refine r_getr X hT 0 3 15 fk_8_32 rfl rfl (by decide) dX8_peak_21 ?_
        refine r_geti X hT 15 10 fk_8_168 rfl rfl (by decide) dX8_peak_24 ?_
        refine lv_icmp_ge (tgt := 57) hx hb dX8_peak_27 (by decide) (fun c7 => ?_) (fun c7 => ?_)
        ·
          have q7 : (i5 15 10).toInt ≤ x19_3.toInt := i_le c7
          refine lv_iload_n hx hb dX8_peak_57 rfl (lv_at hl 1 rfl) ?_
          exact hret x19_1 _ _ _ _ _ _ dX8_peak_58 hT hS ⟨hR5, hF5, (rg_w hhx19_1 (by decide) : rg (-2) 11 x19_1)⟩
        ·
          have q7 : x19_3.toInt < (i5 15 10).toInt := i_nle c7
          have h8 : rg 0 11 x19_3 := t_ltx 0 11 hhx19_3 (Rg_at hR5 15 10 (-1) 12 (by decide) rfl) (i_nle c7) (by decide)
          have h9 : rg 1 12 (i5 15 10) := t_lty 1 12 hhx19_3 (Rg_at hR5 15 10 (-1) 12 (by decide) rfl) (i_nle c7) (by decide)
          refine lv_aload_n hx hb dX8_peak_30 rfl (lv_at hl 0 rfl) ?_
          refine e_Vr (As := []) (rest := []) X Y hT hS (m_X8_current hR5) mk_X8_current gm_736 rfl rfl (by decide) hd_X8_current ⟨rfl, rfl⟩ ⟨Nat.le_of_ble_eq_true rfl, Nat.le_of_ble_eq_true rfl⟩ hl.1 rfl (Nat.le_of_ble_eq_true rfl) dX8_peak_31 ⟨Nat.zero_le _, Nat.zero_le _⟩ (fun i10 g10 H locs hq hT hS => ?_)
          obtain ⟨hR10, hf10⟩ := hq
          have hF10 := Fr_tr hF5 hf10 (by decide)
          refine lv_iload_n hx hb dX8_peak_34 rfl (lv_at hl 3 rfl) ?_
          refine e_Vi (As := [.int x19_3]) (rest := []) X Y hT hS (m_X0_readIn_65 hR10 x19_3) mk_X0_readIn gm_831 rfl rfl (by decide) hd_X0_readIn ⟨rfl, rfl⟩ ⟨Nat.le_of_ble_eq_true rfl, Nat.le_of_ble_eq_true rfl⟩ hl.1 rfl (Nat.le_of_ble_eq_true rfl) dX8_peak_35 ⟨Nat.zero_le _, Nat.zero_le _⟩ (fun r11 i11 g11 H locs hq hT hS => ?_)
          obtain ⟨hR11, hf11⟩ := hq
          have hF11 := Fr_tr hF10 hf11 (by decide)
          refine lv_istore (lv' := [(4, .int r11), (0, .ref (h 0)), (1, .int x19_1), (2, .int x19_2), (3, .int x19_3)]) hx hb dX8_peak_38 hl (by decide) rfl (fun ls hl => ?_)
          refine lv_iload hx hb dX8_peak_40 (lv_at hl 0 rfl) ?_
          refine lv_iload_n hx hb dX8_peak_42 rfl (lv_at hl 3 rfl) ?_
          refine lv_icmp_le (tgt := 51) hx hb dX8_peak_43 (by decide) (fun c12 => ?_) (fun c12 => ?_)
          ·
            have q12 : r11.toInt ≤ x19_2.toInt := i_le c12
            obtain ⟨x13, ex13⟩ : ∃ y : Int32, y = x19_3 + 1 := ⟨_, rfl⟩
            refine lv_iinc (v := x13) (lv' := [(3, .int x13), (4, .int r11), (0, .ref (h 0)), (1, .int x19_1), (2, .int x19_2)]) hx hb dX8_peak_51 hl (k := 4) rfl (by rw [ex13]; rfl) (by decide) rfl (fun ls hl => ?_)
            obtain ⟨hx13, ax13⟩ := rg_add 1 12 ex13 h8 (rg_k (by decide) : rg 1 1 1) (by decide)
            replace ax13 : x13.toInt = x19_3.toInt + 1 := ax13
            refine lv_goto (tgt := 19) hx hb dX8_peak_54 (by decide) ?_
            exact ih6_ x19_1 x19_2 x13 i11 g11 _ _ _ hhx19_1 hhx19_2 (rg_w hx13 (by decide) : rg 0 12 x13) hR11 hF11 hT hS (lv_sub hl [2, 3, 4, 0] rfl) (m_up ax13 hx13 (by decide) hm6_)
          ·
            have q12 : x19_2.toInt < r11.toInt := i_nle c12
            have h14 : rg (-1) 2147483646 x19_2 := t_ltx (-1) 2147483646 hhx19_2 (rg_top r11) (i_nle c12) (by decide)
            have h15 : rg 0 2147483647 r11 := t_lty 0 2147483647 hhx19_2 (rg_top r11) (i_nle c12) (by decide)
            refine lv_iload hx hb dX8_peak_46 (lv_at hl 0 rfl) ?_
            refine lv_istore_n (lv' := [(2, .int r11), (4, .int r11), (0, .ref (h 0)), (1, .int x19_1), (3, .int x19_3)]) hx hb dX8_peak_48 rfl hl (by decide) rfl (fun ls hl => ?_)
            refine lv_iload_n hx hb dX8_peak_49 rfl (lv_at hl 4 rfl) ?_
            refine lv_istore_n (lv' := [(1, .int x19_3), (2, .int r11), (4, .int r11), (0, .ref (h 0)), (3, .int x19_3)]) hx hb dX8_peak_50 rfl hl (by decide) rfl (fun ls hl => ?_)
            obtain ⟨x16, ex16⟩ : ∃ y : Int32, y = x19_3 + 1 := ⟨_, rfl⟩
            refine lv_iinc (v := x16) (lv' := [(3, .int x16), (1, .int x19_3), (2, .int r11), (4, .int r11), (0, .ref (h 0))]) hx hb dX8_peak_51 hl (k := 4) rfl (by rw [ex16]; rfl) (by decide) rfl (fun ls hl => ?_)
            obtain ⟨hx16, ax16⟩ := rg_add 1 12 ex16 h8 (rg_k (by decide) : rg 1 1 1) (by decide)
            replace ax16 : x16.toInt = x19_3.toInt + 1 := ax16
            refine lv_goto (tgt := 19) hx hb dX8_peak_54 (by decide) ?_
            exact ih6_ x19_3 r11 x16 i11 g11 _ _ _ h8 (rg_w h15 (by decide) : rg (-1) 2147483647 r11) (rg_w hx16 (by decide) : rg 0 12 x16) hR11 hF11 hT hS (lv_sub hl [4, 1, 2, 0] rfl) (m_up ax16 hx16 (by decide) hm6_)
    exact L19_4 _ (0) ((-1)) (0) i g _ _ _ (rg_w (rg_k (by decide) : rg 0 0 0) (by decide) : rg 0 11 0) (rg_w (rg_k (by decide) : rg (-1) (-1) (-1)) (by decide) : rg (-1) 2147483647 (-1)) (rg_w (rg_k (by decide) : rg 0 0 0) (by decide) : rg 0 12 0) hR hF hT hS (lv_sub hl [3, 2, 1, 0] rfl) (Nat.lt_succ_self _)
  ·
    have q2 : r1.toInt = 0 := i_eq c2
    have h17 : rg 0 0 r1 := t_eqx 0 0 hr1 (rg_k (by decide) : rg 0 0 0) (i_eq c2) (by decide)
    refine lv_bipush (v := (-2)) hx hb dX8_peak_10 (by decide) ?_
    exact hret (-2) _ _ _ _ _ _ dX8_peak_12 hT hS ⟨hR, hF, (rg_w (rg_k (by decide) : rg (-2) (-2) (-2)) (by decide) : rg (-2) 11 (-2))⟩
set_option maxRecDepth 100000 in
set_option maxHeartbeats 4000000 in
theorem m_X8_first {l : Launch} {D : va_G} {h : Nat → Nat} {cz : Nat → ClassId} {z : EZ} {i : Nat → Nat → Int32} {g : Nat → Nat → Int64} (hR : Rg rA i) : DtI l yX8_first cX8_first 2 (some .int) ({ frames := 6, cells := 0, slots := 0, locals := 131 } : Room) D h cz z i g [.ref (h 0)] (fun r u => Rg rA u.1 ∧ Fr [0, 65, 66, 67, 68, 69, 70] [] i g u ∧ rg (-2) 11 r) := by
  refine e_I pn_X8_first (Nat.le_of_ble_eq_true rfl) ?_
  intro p e s m args below meth c ls Q X Y hret hT hl hS
  have hx := X.1
  have hb := X.2.1
  have hl : lv_has ls 2 [(0, .ref (h 0))] := hl
  have hF : Fr [0, 65, 66, 67, 68, 69, 70] [] i g (i, g) := Fr_rf _ _ _ _
  refine lv_aload_n hx hb dX8_first_0 rfl (lv_at hl 0 rfl) ?_
  refine r_getr X hT 0 3 15 fk_8_32 rfl rfl (by decide) dX8_first_1 ?_
  refine e_Vi (As := []) (rest := []) X Y hT hS (m_X6_isTold_15 hR) mk_X6_isTold gm_698 rfl rfl (by decide) hd_X6_isTold ⟨rfl, rfl⟩ ⟨Nat.le_of_ble_eq_true rfl, Nat.le_of_ble_eq_true rfl⟩ hl.1 rfl (Nat.le_of_ble_eq_true rfl) dX8_first_4 ⟨Nat.zero_le _, Nat.zero_le _⟩ (fun r1 i1 g1 H locs hq hT hS => ?_)
  obtain ⟨eh1, hr1⟩ := hq
  rw [(Prod.mk.inj eh1).1, (Prod.mk.inj eh1).2] at hT
  refine lv_if_ne (tgt := 13) hx hb dX8_first_7 (by decide) (fun c2 => ?_) (fun c2 => ?_)
  ·
    have q2 : ¬ r1.toInt = 0 := i_ne c2
    have h3 : rg 1 1 r1 := t_nelo 1 hr1 (rg_k (by decide) : rg 0 0 0) (i_ne c2) (by decide)
    refine lv_iconst (v := 0) hx hb dX8_first_13 (by decide) ?_
    refine lv_istore_n (lv' := [(1, .int 0), (0, .ref (h 0))]) hx hb dX8_first_14 rfl hl (by decide) rfl (fun ls hl => ?_)
    have L15_4 : ∀ (n6_ : Nat) (x15_1 : Int32) (i5 : Nat → Nat → Int32) (g5 : Nat → Nat → Int64) (H : Heap) (locs : List Loc) (ls : Array Slot), rg 0 12 x15_1 → Rg rA i5 → Fr [0, 65, 66, 67, 68, 69, 70] [] i g (i5, g5) → TH D h cz i5 g5 H → va_S (hA h) s.heap H locs → lv_has ls 2 [(0, .ref (h 0)), (1, .int x15_1)] → (12 - x15_1.toInt).toNat < n6_ → W p l e ({ frames := 6, cells := 0, slots := 0, locals := 131 } : Room) s m args below meth c H locs 0 0 Q (F0 m 15 ls []) := by
      intro n6_
      induction n6_ with
      | zero => intro x15_1 i5 g5 H locs ls hhx15_1 hR5 hF5 hT hS hl hm6_; exact absurd hm6_ (Nat.not_lt_zero _)
      | succ n6_ ih6_ =>
        intro x15_1 i5 g5 H locs ls hhx15_1 hR5 hF5 hT hS hl hm6_
        refine lv_iload_n hx hb dX8_first_15 rfl (lv_at hl 1 rfl) ?_
        refine lv_aload_n hx hb dX8_first_16 rfl (lv_at hl 0 rfl) ?_
        refine r_getr X hT 0 3 15 fk_8_32 rfl rfl (by decide) dX8_first_17 ?_
        refine r_geti X hT 15 10 fk_8_168 rfl rfl (by decide) dX8_first_20 ?_
        refine lv_icmp_ge (tgt := 42) hx hb dX8_first_23 (by decide) (fun c7 => ?_) (fun c7 => ?_)
        ·
          have q7 : (i5 15 10).toInt ≤ x15_1.toInt := i_le c7
          refine lv_iconst (v := (-1)) hx hb dX8_first_42 (by decide) ?_
          exact hret (-1) _ _ _ _ _ _ dX8_first_43 hT hS ⟨hR5, hF5, (rg_w (rg_k (by decide) : rg (-1) (-1) (-1)) (by decide) : rg (-2) 11 (-1))⟩
        ·
          have q7 : x15_1.toInt < (i5 15 10).toInt := i_nle c7
          have h8 : rg 0 11 x15_1 := t_ltx 0 11 hhx15_1 (Rg_at hR5 15 10 (-1) 12 (by decide) rfl) (i_nle c7) (by decide)
          have h9 : rg 1 12 (i5 15 10) := t_lty 1 12 hhx15_1 (Rg_at hR5 15 10 (-1) 12 (by decide) rfl) (i_nle c7) (by decide)
          refine lv_aload_n hx hb dX8_first_26 rfl (lv_at hl 0 rfl) ?_
          refine lv_iload_n hx hb dX8_first_27 rfl (lv_at hl 1 rfl) ?_
          refine e_Vi (As := [.int x15_1]) (rest := []) X Y hT hS (m_X8_openedIn hR5 x15_1) mk_X8_openedIn gm_925 rfl rfl (by decide) hd_X8_openedIn ⟨rfl, rfl⟩ ⟨Nat.le_of_ble_eq_true rfl, Nat.le_of_ble_eq_true rfl⟩ hl.1 rfl (Nat.le_of_ble_eq_true rfl) dX8_first_28 ⟨Nat.zero_le _, Nat.zero_le _⟩ (fun r10 i10 g10 H locs hq hT hS => ?_)
          obtain ⟨hR10, hf10, hr10⟩ := hq
          have hF10 := Fr_tr hF5 hf10 (by decide)
          refine lv_if_le (tgt := 36) hx hb dX8_first_31 (by decide) (fun c11 => ?_) (fun c11 => ?_)
          ·
            have q11 : r10.toInt ≤ 0 := i_le c11
            have h12 : rg 0 0 r10 := t_lex 0 0 hr10 (rg_k (by decide) : rg 0 0 0) (i_le c11) (by decide)
            obtain ⟨x13, ex13⟩ : ∃ y : Int32, y = x15_1 + 1 := ⟨_, rfl⟩
            refine lv_iinc (v := x13) (lv' := [(1, .int x13), (0, .ref (h 0))]) hx hb dX8_first_36 hl (k := 1) rfl (by rw [ex13]; rfl) (by decide) rfl (fun ls hl => ?_)
            obtain ⟨hx13, ax13⟩ := rg_add 1 12 ex13 h8 (rg_k (by decide) : rg 1 1 1) (by decide)
            replace ax13 : x13.toInt = x15_1.toInt + 1 := ax13
            refine lv_goto (tgt := 15) hx hb dX8_first_39 (by decide) ?_
            exact ih6_ x13 i10 g10 _ _ _ (rg_w hx13 (by decide) : rg 0 12 x13) hR10 hF10 hT hS (lv_sub hl [1, 0] rfl) (m_up ax13 hx13 (by decide) hm6_)
          ·
            have q11 : 0 < r10.toInt := i_nle c11
            have h14 : rg 1 63 r10 := t_lty 1 63 (rg_k (by decide) : rg 0 0 0) hr10 (i_nle c11) (by decide)
            refine lv_iload_n hx hb dX8_first_34 rfl (lv_at hl 1 rfl) ?_
            exact hret x15_1 _ _ _ _ _ _ dX8_first_35 hT hS ⟨hR10, hF10, (rg_w h8 (by decide) : rg (-2) 11 x15_1)⟩
    exact L15_4 _ (0) i g _ _ _ (rg_w (rg_k (by decide) : rg 0 0 0) (by decide) : rg 0 12 0) hR hF hT hS (lv_sub hl [1, 0] rfl) (Nat.lt_succ_self _)
  ·
    have q2 : r1.toInt = 0 := i_eq c2
    have h15 : rg 0 0 r1 := t_eqx 0 0 hr1 (rg_k (by decide) : rg 0 0 0) (i_eq c2) (by decide)
    refine lv_bipush (v := (-2)) hx hb dX8_first_10 (by decide) ?_
    exact hret (-2) _ _ _ _ _ _ dX8_first_12 hT hS ⟨hR, hF, (rg_w (rg_k (by decide) : rg (-2) (-2) (-2)) (by decide) : rg (-2) 11 (-2))⟩
set_option maxRecDepth 100000 in
set_option maxHeartbeats 4000000 in
theorem m_X8_quiet {l : Launch} {D : va_G} {h : Nat → Nat} {cz : Nat → ClassId} {z : EZ} {i : Nat → Nat → Int32} {g : Nat → Nat → Int64} (hR : Rg rA i) : DtI l yX8_quiet cX8_quiet 3 (some .int) ({ frames := 6, cells := 0, slots := 0, locals := 131 } : Room) D h cz z i g [.ref (h 0)] (fun r u => Rg rA u.1 ∧ Fr [0, 65, 66, 67, 68, 69, 70] [] i g u) := by
  refine e_I pn_X8_quiet (Nat.le_of_ble_eq_true rfl) ?_
  intro p e s m args below meth c ls Q X Y hret hT hl hS
  have hx := X.1
  have hb := X.2.1
  have hl : lv_has ls 3 [(0, .ref (h 0))] := hl
  have hF : Fr [0, 65, 66, 67, 68, 69, 70] [] i g (i, g) := Fr_rf _ _ _ _
  refine lv_aload_n hx hb dX8_quiet_0 rfl (lv_at hl 0 rfl) ?_
  refine r_getr X hT 0 3 15 fk_8_32 rfl rfl (by decide) dX8_quiet_1 ?_
  refine e_Vi (As := []) (rest := []) X Y hT hS (m_X6_isTold_15 hR) mk_X6_isTold gm_698 rfl rfl (by decide) hd_X6_isTold ⟨rfl, rfl⟩ ⟨Nat.le_of_ble_eq_true rfl, Nat.le_of_ble_eq_true rfl⟩ hl.1 rfl (Nat.le_of_ble_eq_true rfl) dX8_quiet_4 ⟨Nat.zero_le _, Nat.zero_le _⟩ (fun r1 i1 g1 H locs hq hT hS => ?_)
  obtain ⟨eh1, hr1⟩ := hq
  rw [(Prod.mk.inj eh1).1, (Prod.mk.inj eh1).2] at hT
  refine lv_if_ne (tgt := 13) hx hb dX8_quiet_7 (by decide) (fun c2 => ?_) (fun c2 => ?_)
  ·
    have q2 : ¬ r1.toInt = 0 := i_ne c2
    have h3 : rg 1 1 r1 := t_nelo 1 hr1 (rg_k (by decide) : rg 0 0 0) (i_ne c2) (by decide)
    refine lv_iconst (v := 0) hx hb dX8_quiet_13 (by decide) ?_
    refine lv_istore_n (lv' := [(1, .int 0), (0, .ref (h 0))]) hx hb dX8_quiet_14 rfl hl (by decide) rfl (fun ls hl => ?_)
    refine lv_iconst (v := 0) hx hb dX8_quiet_15 (by decide) ?_
    refine lv_istore_n (lv' := [(2, .int 0), (1, .int 0), (0, .ref (h 0))]) hx hb dX8_quiet_16 rfl hl (by decide) rfl (fun ls hl => ?_)
    have L17_4 : ∀ (n6_ : Nat) (x17_1 : Int32) (x17_2 : Int32) (i5 : Nat → Nat → Int32) (g5 : Nat → Nat → Int64) (H : Heap) (locs : List Loc) (ls : Array Slot), rg 0 12 x17_2 → Rg rA i5 → Fr [0, 65, 66, 67, 68, 69, 70] [] i g (i5, g5) → TH D h cz i5 g5 H → va_S (hA h) s.heap H locs → lv_has ls 3 [(0, .ref (h 0)), (1, .int x17_1), (2, .int x17_2)] → (12 - x17_2.toInt).toNat < n6_ → W p l e ({ frames := 6, cells := 0, slots := 0, locals := 131 } : Room) s m args below meth c H locs 0 0 Q (F0 m 17 ls []) := by
      intro n6_
      induction n6_ with
      | zero => intro x17_1 x17_2 i5 g5 H locs ls hhx17_2 hR5 hF5 hT hS hl hm6_; exact absurd hm6_ (Nat.not_lt_zero _)
      | succ n6_ ih6_ =>
        intro x17_1 x17_2 i5 g5 H locs ls hhx17_2 hR5 hF5 hT hS hl hm6_
        refine lv_iload_n hx hb dX8_quiet_17 rfl (lv_at hl 2 rfl) ?_
        refine lv_aload_n hx hb dX8_quiet_18 rfl (lv_at hl 0 rfl) ?_
        refine r_getr X hT 0 3 15 fk_8_32 rfl rfl (by decide) dX8_quiet_19 ?_
        refine r_geti X hT 15 10 fk_8_168 rfl rfl (by decide) dX8_quiet_22 ?_
        refine lv_icmp_ge (tgt := 50) hx hb dX8_quiet_25 (by decide) (fun c7 => ?_) (fun c7 => ?_)
        ·
          have q7 : (i5 15 10).toInt ≤ x17_2.toInt := i_le c7
          refine lv_iload_n hx hb dX8_quiet_50 rfl (lv_at hl 1 rfl) ?_
          exact hret x17_1 _ _ _ _ _ _ dX8_quiet_51 hT hS ⟨hR5, hF5⟩
        ·
          have q7 : x17_2.toInt < (i5 15 10).toInt := i_nle c7
          have h8 : rg 0 11 x17_2 := t_ltx 0 11 hhx17_2 (Rg_at hR5 15 10 (-1) 12 (by decide) rfl) (i_nle c7) (by decide)
          have h9 : rg 1 12 (i5 15 10) := t_lty 1 12 hhx17_2 (Rg_at hR5 15 10 (-1) 12 (by decide) rfl) (i_nle c7) (by decide)
          refine lv_iload_n hx hb dX8_quiet_28 rfl (lv_at hl 1 rfl) ?_
          refine lv_aload_n hx hb dX8_quiet_29 rfl (lv_at hl 0 rfl) ?_
          refine lv_iload_n hx hb dX8_quiet_30 rfl (lv_at hl 2 rfl) ?_
          refine e_Vi (As := [.int x17_2]) (rest := [.int x17_1]) X Y hT hS (m_X8_openedIn hR5 x17_2) mk_X8_openedIn gm_925 rfl rfl (by decide) hd_X8_openedIn ⟨rfl, rfl⟩ ⟨Nat.le_of_ble_eq_true rfl, Nat.le_of_ble_eq_true rfl⟩ hl.1 rfl (Nat.le_of_ble_eq_true rfl) dX8_quiet_31 ⟨Nat.zero_le _, Nat.zero_le _⟩ (fun r10 i10 g10 H locs hq hT hS => ?_)
          obtain ⟨hR10, hf10, hr10⟩ := hq
          have hF10 := Fr_tr hF5 hf10 (by decide)
          refine lv_if_ne (tgt := 41) hx hb dX8_quiet_34 (by decide) (fun c11 => ?_) (fun c11 => ?_)
          ·
            have q11 : ¬ r10.toInt = 0 := i_ne c11
            have h12 : rg 1 63 r10 := t_nelo 1 hr10 (rg_k (by decide) : rg 0 0 0) (i_ne c11) (by decide)
            refine lv_iconst (v := 0) hx hb dX8_quiet_41 (by decide) ?_
            refine q_iadd hx hb dX8_quiet_42 (fun x13 ex13 => ?_)
            obtain ⟨hx13, ax13⟩ := rg_add (-2147483648) 2147483647 ex13 (rg_top x17_1) (rg_k (by decide) : rg 0 0 0) (by decide)
            replace ax13 : x13.toInt = x17_1.toInt + 0 := ax13
            refine lv_istore_n (lv' := [(1, .int x13), (0, .ref (h 0)), (2, .int x17_2)]) hx hb dX8_quiet_43 rfl hl (by decide) rfl (fun ls hl => ?_)
            obtain ⟨x14, ex14⟩ : ∃ y : Int32, y = x17_2 + 1 := ⟨_, rfl⟩
            refine lv_iinc (v := x14) (lv' := [(2, .int x14), (1, .int x13), (0, .ref (h 0))]) hx hb dX8_quiet_44 hl (k := 2) rfl (by rw [ex14]; rfl) (by decide) rfl (fun ls hl => ?_)
            obtain ⟨hx14, ax14⟩ := rg_add 1 12 ex14 h8 (rg_k (by decide) : rg 1 1 1) (by decide)
            replace ax14 : x14.toInt = x17_2.toInt + 1 := ax14
            refine lv_goto (tgt := 17) hx hb dX8_quiet_47 (by decide) ?_
            exact ih6_ x13 x14 i10 g10 _ _ _ (rg_w hx14 (by decide) : rg 0 12 x14) hR10 hF10 hT hS (lv_sub hl [2, 1, 0] rfl) (m_up ax14 hx14 (by decide) hm6_)
          ·
            have q11 : r10.toInt = 0 := i_eq c11
            have h15 : rg 0 0 r10 := t_eqx 0 0 hr10 (rg_k (by decide) : rg 0 0 0) (i_eq c11) (by decide)
            refine lv_iconst (v := 1) hx hb dX8_quiet_37 (by decide) ?_
            refine lv_goto (tgt := 42) hx hb dX8_quiet_38 (by decide) ?_
            refine q_iadd hx hb dX8_quiet_42 (fun x16 ex16 => ?_)
            refine lv_istore_n (lv' := [(1, .int x16), (0, .ref (h 0)), (2, .int x17_2)]) hx hb dX8_quiet_43 rfl hl (by decide) rfl (fun ls hl => ?_)
            obtain ⟨x17, ex17⟩ : ∃ y : Int32, y = x17_2 + 1 := ⟨_, rfl⟩
            refine lv_iinc (v := x17) (lv' := [(2, .int x17), (1, .int x16), (0, .ref (h 0))]) hx hb dX8_quiet_44 hl (k := 2) rfl (by rw [ex17]; rfl) (by decide) rfl (fun ls hl => ?_)
            obtain ⟨hx17, ax17⟩ := rg_add 1 12 ex17 h8 (rg_k (by decide) : rg 1 1 1) (by decide)
            replace ax17 : x17.toInt = x17_2.toInt + 1 := ax17
            refine lv_goto (tgt := 17) hx hb dX8_quiet_47 (by decide) ?_
            exact ih6_ x16 x17 i10 g10 _ _ _ (rg_w hx17 (by decide) : rg 0 12 x17) hR10 hF10 hT hS (lv_sub hl [2, 1, 0] rfl) (m_up ax17 hx17 (by decide) hm6_)
    exact L17_4 _ (0) (0) i g _ _ _ (rg_w (rg_k (by decide) : rg 0 0 0) (by decide) : rg 0 12 0) hR hF hT hS (lv_sub hl [2, 1, 0] rfl) (Nat.lt_succ_self _)
  ·
    have q2 : r1.toInt = 0 := i_eq c2
    have h18 : rg 0 0 r1 := t_eqx 0 0 hr1 (rg_k (by decide) : rg 0 0 0) (i_eq c2) (by decide)
    refine lv_bipush (v := (-2)) hx hb dX8_quiet_10 (by decide) ?_
    exact hret (-2) _ _ _ _ _ _ dX8_quiet_12 hT hS ⟨hR, hF⟩
set_option maxRecDepth 100000 in
set_option maxHeartbeats 4000000 in
theorem m_X8_lone {l : Launch} {D : va_G} {h : Nat → Nat} {cz : Nat → ClassId} {z : EZ} {i : Nat → Nat → Int32} {g : Nat → Nat → Int64} (hR : Rg rA i) (a_a : Int32) : DtI l yX8_lone cX8_lone 6 (some .int) ({ frames := 5, cells := 0, slots := 0, locals := 110 } : Room) D h cz z i g [.ref (h 0), .int a_a] (fun r u => Rg rA u.1 ∧ Fr [0, 65, 66, 67, 68, 69, 70] [] i g u ∧ rg (-2) 255 r) := by
  refine e_I pn_X8_lone (Nat.le_of_ble_eq_true rfl) ?_
  intro p e s m args below meth c ls Q X Y hret hT hl hS
  have hx := X.1
  have hb := X.2.1
  have hl : lv_has ls 6 [(0, .ref (h 0)), (1, .int a_a)] := hl
  have hF : Fr [0, 65, 66, 67, 68, 69, 70] [] i g (i, g) := Fr_rf _ _ _ _
  refine lv_aload_n hx hb dX8_lone_0 rfl (lv_at hl 0 rfl) ?_
  refine r_getr X hT 0 3 15 fk_8_32 rfl rfl (by decide) dX8_lone_1 ?_
  refine lv_iload_n hx hb dX8_lone_4 rfl (lv_at hl 1 rfl) ?_
  refine e_Vi (As := [.int a_a]) (rest := []) X Y hT hS (m_X6_hasYear_15 hR a_a) mk_X6_hasYear gm_731 rfl rfl (by decide) hd_X6_hasYear ⟨rfl, rfl⟩ ⟨Nat.le_of_ble_eq_true rfl, Nat.le_of_ble_eq_true rfl⟩ hl.1 rfl (Nat.le_of_ble_eq_true rfl) dX8_lone_5 ⟨Nat.zero_le _, Nat.zero_le _⟩ (fun r1 i1 g1 H locs hq hT hS => ?_)
  rcases hq with hq | hq
  ·
    obtain ⟨eh1, rfl, hf1_0⟩ := hq
    rw [(Prod.mk.inj eh1).1, (Prod.mk.inj eh1).2] at hT
    have h2 : rg 0 12 a_a := ⟨by have := (rg_top a_a).1; have := hf1_0.1; omega, by have := (rg_top a_a).2; have := hf1_0.2; omega⟩
    refine lv_if_ne (tgt := 14) hx hb dX8_lone_8 (by decide) (fun c3 => ?_) (fun c3 => (x_eq (rg_k (by decide) : rg 1 1 1) (rg_k (by decide) : rg 0 0 0) (i_eq c3) (by decide)).elim)
    refine lv_aload_n hx hb dX8_lone_14 rfl (lv_at hl 0 rfl) ?_
    refine e_Vr (As := []) (rest := []) X Y hT hS (m_X8_current hR) mk_X8_current gm_736 rfl rfl (by decide) hd_X8_current ⟨rfl, rfl⟩ ⟨Nat.le_of_ble_eq_true rfl, Nat.le_of_ble_eq_true rfl⟩ hl.1 rfl (Nat.le_of_ble_eq_true rfl) dX8_lone_15 ⟨Nat.zero_le _, Nat.zero_le _⟩ (fun i4 g4 H locs hq hT hS => ?_)
    obtain ⟨hR4, hf4⟩ := hq
    have hF4 := Fr_tr hF hf4 (by decide)
    refine lv_iload_n hx hb dX8_lone_18 rfl (lv_at hl 1 rfl) ?_
    refine e_Vi (As := [.int a_a]) (rest := []) X Y hT hS (m_X0_openIn_65 hR4 a_a) mk_X0_openIn gm_799 rfl rfl (by decide) hd_X0_openIn ⟨rfl, rfl⟩ ⟨Nat.le_of_ble_eq_true rfl, Nat.le_of_ble_eq_true rfl⟩ hl.1 rfl (Nat.le_of_ble_eq_true rfl) dX8_lone_19 ⟨Nat.zero_le _, Nat.zero_le _⟩ (fun r5 i5 g5 H locs hq hT hS => ?_)
    have eh5 := hq
    rw [(Prod.mk.inj eh5).1, (Prod.mk.inj eh5).2] at hT
    refine lv_istore_n (lv' := [(2, .int r5), (0, .ref (h 0)), (1, .int a_a)]) hx hb dX8_lone_22 rfl hl (by decide) rfl (fun ls hl => ?_)
    refine lv_iconst (v := 0) hx hb dX8_lone_23 (by decide) ?_
    refine lv_istore_n (lv' := [(3, .int 0), (2, .int r5), (0, .ref (h 0)), (1, .int a_a)]) hx hb dX8_lone_24 rfl hl (by decide) rfl (fun ls hl => ?_)
    refine lv_iconst (v := 0) hx hb dX8_lone_25 (by decide) ?_
    refine lv_istore (lv' := [(4, .int 0), (3, .int 0), (2, .int r5), (0, .ref (h 0)), (1, .int a_a)]) hx hb dX8_lone_26 hl (by decide) rfl (fun ls hl => ?_)
    have L28_6 : ∀ (n7_ : Nat) (x28_3 : Int32) (x28_4 : Int32) (H : Heap) (locs : List Loc) (ls : Array Slot), rg 0 255 x28_3 → rg 0 6 x28_4 → TH D h cz i4 g4 H → va_S (hA h) s.heap H locs → lv_has ls 6 [(0, .ref (h 0)), (2, .int r5), (3, .int x28_3), (4, .int x28_4)] → (6 - x28_4.toInt).toNat < n7_ → W p l e ({ frames := 5, cells := 0, slots := 0, locals := 110 } : Room) s m args below meth c H locs 0 0 Q (F0 m 28 ls []) := by
      intro n7_
      induction n7_ with
      | zero => intro x28_3 x28_4 H locs ls hhx28_3 hhx28_4 hT hS hl hm7_; exact absurd hm7_ (Nat.not_lt_zero _)
      | succ n7_ ih7_ =>
        intro x28_3 x28_4 H locs ls hhx28_3 hhx28_4 hT hS hl hm7_
        refine lv_iload hx hb dX8_lone_28 (lv_at hl 3 rfl) ?_
        refine lv_aload_n hx hb dX8_lone_30 rfl (lv_at hl 0 rfl) ?_
        refine r_getr X hT 0 3 15 fk_8_32 rfl rfl (by decide) dX8_lone_31 ?_
        refine r_geti X hT 15 13 fk_8_156 rfl rfl (by decide) dX8_lone_34 ?_
        refine lv_icmp_ge (tgt := 88) hx hb dX8_lone_37 (by decide) (fun c8 => ?_) (fun c8 => ?_)
        ·
          have q8 : (i4 15 13).toInt ≤ x28_4.toInt := i_le c8
          refine lv_iload_n hx hb dX8_lone_88 rfl (lv_at hl 2 rfl) ?_
          exact hret x28_3 _ _ _ _ _ _ dX8_lone_89 hT hS ⟨hR4, hF4, (rg_w hhx28_3 (by decide) : rg (-2) 255 x28_3)⟩
        ·
          have q8 : x28_4.toInt < (i4 15 13).toInt := i_nle c8
          have h9 : rg 0 5 x28_4 := t_ltx 0 5 hhx28_4 (Rg_at hR4 15 13 0 6 (by decide) rfl) (i_nle c8) (by decide)
          have h10 : rg 1 6 (i4 15 13) := t_lty 1 6 hhx28_4 (Rg_at hR4 15 13 0 6 (by decide) rfl) (i_nle c8) (by decide)
          refine lv_aload_n hx hb dX8_lone_40 rfl (lv_at hl 0 rfl) ?_
          refine r_getr X hT 0 3 15 fk_8_32 rfl rfl (by decide) dX8_lone_41 ?_
          refine lv_iload hx hb dX8_lone_44 (lv_at hl 3 rfl) ?_
          refine lv_iconst (v := (-1)) hx hb dX8_lone_46 (by decide) ?_
          refine e_Vi (As := [.int x28_4, .int (-1)]) (rest := []) X Y hT hS (m_X6_neighbours_15 hR4 x28_4 ((-1))) mk_X6_neighbours gm_677 rfl rfl (by decide) hd_X6_neighbours ⟨rfl, rfl⟩ ⟨Nat.le_of_ble_eq_true rfl, Nat.le_of_ble_eq_true rfl⟩ hl.1 rfl (Nat.le_of_ble_eq_true rfl) dX8_lone_47 ⟨Nat.zero_le _, Nat.zero_le _⟩ (fun r11 i11 g11 H locs hq hT hS => ?_)
          obtain ⟨eh11, hr11⟩ := hq
          rw [(Prod.mk.inj eh11).1, (Prod.mk.inj eh11).2] at hT
          refine lv_istore (lv' := [(5, .int r11), (0, .ref (h 0)), (2, .int r5), (3, .int x28_3), (4, .int x28_4)]) hx hb dX8_lone_50 hl (by decide) rfl (fun ls hl => ?_)
          refine lv_iload_n hx hb dX8_lone_52 rfl (lv_at hl 2 rfl) ?_
          refine lv_iload hx hb dX8_lone_53 (lv_at hl 4 rfl) ?_
          refine e_Si (As := [.int r5, .int x28_4]) (rest := []) X Y hT hS (m_X8_hasBit r5 x28_4) sk_X8_hasBit gm_685 hd_X8_hasBit ⟨rfl, rfl⟩ ⟨Nat.le_of_ble_eq_true rfl, Nat.le_of_ble_eq_true rfl⟩ hl.1 rfl (Nat.le_of_ble_eq_true rfl) dX8_lone_55 ⟨Nat.zero_le _, Nat.zero_le _⟩ (fun r12 i12 g12 H locs hq hT hS => ?_)
          obtain ⟨eh12, hr12⟩ := hq
          rw [(Prod.mk.inj eh12).1, (Prod.mk.inj eh12).2] at hT
          refine lv_if_ne (tgt := 82) hx hb dX8_lone_58 (by decide) (fun c13 => ?_) (fun c13 => ?_)
          ·
            have q13 : ¬ r12.toInt = 0 := i_ne c13
            have h14 : rg 1 1 r12 := t_nelo 1 hr12 (rg_k (by decide) : rg 0 0 0) (i_ne c13) (by decide)
            obtain ⟨x15, ex15⟩ : ∃ y : Int32, y = x28_4 + 1 := ⟨_, rfl⟩
            refine lv_iinc (v := x15) (lv' := [(4, .int x15), (5, .int r11), (0, .ref (h 0)), (2, .int r5), (3, .int x28_3)]) hx hb dX8_lone_82 hl (k := 4) rfl (by rw [ex15]; rfl) (by decide) rfl (fun ls hl => ?_)
            obtain ⟨hx15, ax15⟩ := rg_add 1 6 ex15 h9 (rg_k (by decide) : rg 1 1 1) (by decide)
            replace ax15 : x15.toInt = x28_4.toInt + 1 := ax15
            refine lv_goto (tgt := 28) hx hb dX8_lone_85 (by decide) ?_
            exact ih7_ x28_3 x15 _ _ _ hhx28_3 (rg_w hx15 (by decide) : rg 0 6 x15) hT hS (lv_sub hl [2, 3, 4, 0] rfl) (m_up ax15 hx15 (by decide) hm7_)
          ·
            have q13 : r12.toInt = 0 := i_eq c13
            have h16 : rg 0 0 r12 := t_eqx 0 0 hr12 (rg_k (by decide) : rg 0 0 0) (i_eq c13) (by decide)
            refine lv_iload hx hb dX8_lone_61 (lv_at hl 0 rfl) ?_
            refine lv_if_eq (tgt := 82) hx hb dX8_lone_63 (by decide) (fun c17 => ?_) (fun c17 => ?_)
            ·
              have q17 : r11.toInt = 0 := i_eq c17
              have h18 : rg 0 0 r11 := t_eqx 0 0 hr11 (rg_k (by decide) : rg 0 0 0) (i_eq c17) (by decide)
              obtain ⟨x19, ex19⟩ : ∃ y : Int32, y = x28_4 + 1 := ⟨_, rfl⟩
              refine lv_iinc (v := x19) (lv' := [(4, .int x19), (5, .int r11), (0, .ref (h 0)), (2, .int r5), (3, .int x28_3)]) hx hb dX8_lone_82 hl (k := 4) rfl (by rw [ex19]; rfl) (by decide) rfl (fun ls hl => ?_)
              obtain ⟨hx19, ax19⟩ := rg_add 1 6 ex19 h9 (rg_k (by decide) : rg 1 1 1) (by decide)
              replace ax19 : x19.toInt = x28_4.toInt + 1 := ax19
              refine lv_goto (tgt := 28) hx hb dX8_lone_85 (by decide) ?_
              exact ih7_ x28_3 x19 _ _ _ hhx28_3 (rg_w hx19 (by decide) : rg 0 6 x19) hT hS (lv_sub hl [2, 3, 4, 0] rfl) (m_up ax19 hx19 (by decide) hm7_)
            ·
              have q17 : ¬ r11.toInt = 0 := i_ne c17
              have h20 : rg 1 255 r11 := t_nelo 1 hr11 (rg_k (by decide) : rg 0 0 0) (i_ne c17) (by decide)
              refine lv_iload hx hb dX8_lone_66 (lv_at hl 0 rfl) ?_
              refine lv_iload_n hx hb dX8_lone_68 rfl (lv_at hl 2 rfl) ?_
              refine lv_iconst (v := (-1)) hx hb dX8_lone_69 (by decide) ?_
              refine q_ixor hx hb dX8_lone_70 (fun x21 ex21 => ?_)
              refine q_iand hx hb dX8_lone_71 (fun x22 ex22 => ?_)
              have h23 : rg 0 255 x22 := rg_andl ex22 h20 (by decide)
              refine lv_if_ne (tgt := 82) hx hb dX8_lone_72 (by decide) (fun c24 => ?_) (fun c24 => ?_)
              ·
                have q24 : ¬ x22.toInt = 0 := i_ne c24
                have h25 : rg 1 255 x22 := t_nelo 1 h23 (rg_k (by decide) : rg 0 0 0) (i_ne c24) (by decide)
                obtain ⟨x26, ex26⟩ : ∃ y : Int32, y = x28_4 + 1 := ⟨_, rfl⟩
                refine lv_iinc (v := x26) (lv' := [(4, .int x26), (5, .int r11), (0, .ref (h 0)), (2, .int r5), (3, .int x28_3)]) hx hb dX8_lone_82 hl (k := 4) rfl (by rw [ex26]; rfl) (by decide) rfl (fun ls hl => ?_)
                obtain ⟨hx26, ax26⟩ := rg_add 1 6 ex26 h9 (rg_k (by decide) : rg 1 1 1) (by decide)
                replace ax26 : x26.toInt = x28_4.toInt + 1 := ax26
                refine lv_goto (tgt := 28) hx hb dX8_lone_85 (by decide) ?_
                exact ih7_ x28_3 x26 _ _ _ hhx28_3 (rg_w hx26 (by decide) : rg 0 6 x26) hT hS (lv_sub hl [2, 3, 4, 0] rfl) (m_up ax26 hx26 (by decide) hm7_)
              ·
                have q24 : x22.toInt = 0 := i_eq c24
                have h27 : rg 0 0 x22 := t_eqx 0 0 h23 (rg_k (by decide) : rg 0 0 0) (i_eq c24) (by decide)
                refine lv_iload_n hx hb dX8_lone_75 rfl (lv_at hl 3 rfl) ?_
                refine lv_iconst (v := 1) hx hb dX8_lone_76 (by decide) ?_
                refine lv_iload hx hb dX8_lone_77 (lv_at hl 4 rfl) ?_
                refine q_ishl hx hb dX8_lone_79 (fun x28 ex28 => ?_)
                have h29 : rg 1 32 x28 := rg_shl1 ex28 h9 (by decide)
                refine q_ior hx hb dX8_lone_80 (fun x30 ex30 => ?_)
                have h31 : rg 0 255 x30 := rg_or8 ex30 hhx28_3 h29 (by decide)
                refine lv_istore_n (lv' := [(3, .int x30), (5, .int r11), (0, .ref (h 0)), (2, .int r5), (4, .int x28_4)]) hx hb dX8_lone_81 rfl hl (by decide) rfl (fun ls hl => ?_)
                obtain ⟨x32, ex32⟩ : ∃ y : Int32, y = x28_4 + 1 := ⟨_, rfl⟩
                refine lv_iinc (v := x32) (lv' := [(4, .int x32), (3, .int x30), (5, .int r11), (0, .ref (h 0)), (2, .int r5)]) hx hb dX8_lone_82 hl (k := 4) rfl (by rw [ex32]; rfl) (by decide) rfl (fun ls hl => ?_)
                obtain ⟨hx32, ax32⟩ := rg_add 1 6 ex32 h9 (rg_k (by decide) : rg 1 1 1) (by decide)
                replace ax32 : x32.toInt = x28_4.toInt + 1 := ax32
                refine lv_goto (tgt := 28) hx hb dX8_lone_85 (by decide) ?_
                exact ih7_ x30 x32 _ _ _ h31 (rg_w hx32 (by decide) : rg 0 6 x32) hT hS (lv_sub hl [3, 4, 1, 0] rfl) (m_up ax32 hx32 (by decide) hm7_)
    exact L28_6 _ (0) (0) _ _ _ (rg_w (rg_k (by decide) : rg 0 0 0) (by decide) : rg 0 255 0) (rg_w (rg_k (by decide) : rg 0 0 0) (by decide) : rg 0 6 0) hT hS (lv_sub hl [3, 2, 1, 0] rfl) (Nat.lt_succ_self _)
  ·
    obtain ⟨eh1, rfl⟩ := hq
    rw [(Prod.mk.inj eh1).1, (Prod.mk.inj eh1).2] at hT
    refine lv_if_ne (tgt := 14) hx hb dX8_lone_8 (by decide) (fun c33 => (x_ne (rg_k (by decide) : rg 0 0 0) (rg_k (by decide) : rg 0 0 0) (i_ne c33) (by decide)).elim) (fun c33 => ?_)
    refine lv_bipush (v := (-2)) hx hb dX8_lone_11 (by decide) ?_
    exact hret (-2) _ _ _ _ _ _ dX8_lone_13 hT hS ⟨hR, hF, (rg_w (rg_k (by decide) : rg (-2) (-2) (-2)) (by decide) : rg (-2) 255 (-2))⟩
set_option maxRecDepth 100000 in
set_option maxHeartbeats 4000000 in
theorem m_X8_stalest {l : Launch} {D : va_G} {h : Nat → Nat} {cz : Nat → ClassId} {z : EZ} {i : Nat → Nat → Int32} {g : Nat → Nat → Int64} (hR : Rg rA i) (a_a : Int32) : DtI l yX8_stalest cX8_stalest 7 (some .int) ({ frames := 5, cells := 0, slots := 0, locals := 111 } : Room) D h cz z i g [.ref (h 0), .int a_a] (fun r u => Rg rA u.1 ∧ Fr [0, 65, 66, 67, 68, 69, 70, 71] [] i g u ∧ rg (-2) 5 r) := by
  refine e_I pn_X8_stalest (Nat.le_of_ble_eq_true rfl) ?_
  intro p e s m args below meth c ls Q X Y hret hT hl hS
  have hx := X.1
  have hb := X.2.1
  have hl : lv_has ls 7 [(0, .ref (h 0)), (1, .int a_a)] := hl
  have hF : Fr [0, 65, 66, 67, 68, 69, 70, 71] [] i g (i, g) := Fr_rf _ _ _ _
  refine lv_aload_n hx hb dX8_stalest_0 rfl (lv_at hl 0 rfl) ?_
  refine r_getr X hT 0 3 15 fk_8_32 rfl rfl (by decide) dX8_stalest_1 ?_
  refine lv_iload_n hx hb dX8_stalest_4 rfl (lv_at hl 1 rfl) ?_
  refine e_Vi (As := [.int a_a]) (rest := []) X Y hT hS (m_X6_hasYear_15 hR a_a) mk_X6_hasYear gm_731 rfl rfl (by decide) hd_X6_hasYear ⟨rfl, rfl⟩ ⟨Nat.le_of_ble_eq_true rfl, Nat.le_of_ble_eq_true rfl⟩ hl.1 rfl (Nat.le_of_ble_eq_true rfl) dX8_stalest_5 ⟨Nat.zero_le _, Nat.zero_le _⟩ (fun r1 i1 g1 H locs hq hT hS => ?_)
  rcases hq with hq | hq
  ·
    obtain ⟨eh1, rfl, hf1_0⟩ := hq
    rw [(Prod.mk.inj eh1).1, (Prod.mk.inj eh1).2] at hT
    have h2 : rg 0 12 a_a := ⟨by have := (rg_top a_a).1; have := hf1_0.1; omega, by have := (rg_top a_a).2; have := hf1_0.2; omega⟩
    refine lv_if_ne (tgt := 14) hx hb dX8_stalest_8 (by decide) (fun c3 => ?_) (fun c3 => (x_eq (rg_k (by decide) : rg 1 1 1) (rg_k (by decide) : rg 0 0 0) (i_eq c3) (by decide)).elim)
    refine lv_aload_n hx hb dX8_stalest_14 rfl (lv_at hl 0 rfl) ?_
    refine e_Vr (As := []) (rest := []) X Y hT hS (m_X8_current hR) mk_X8_current gm_736 rfl rfl (by decide) hd_X8_current ⟨rfl, rfl⟩ ⟨Nat.le_of_ble_eq_true rfl, Nat.le_of_ble_eq_true rfl⟩ hl.1 rfl (Nat.le_of_ble_eq_true rfl) dX8_stalest_15 ⟨Nat.zero_le _, Nat.zero_le _⟩ (fun i4 g4 H locs hq hT hS => ?_)
    obtain ⟨hR4, hf4⟩ := hq
    have hF4 := Fr_tr hF hf4 (by decide)
    refine lv_iload_n hx hb dX8_stalest_18 rfl (lv_at hl 1 rfl) ?_
    refine e_Vi (As := [.int a_a]) (rest := []) X Y hT hS (m_X0_openIn_65 hR4 a_a) mk_X0_openIn gm_799 rfl rfl (by decide) hd_X0_openIn ⟨rfl, rfl⟩ ⟨Nat.le_of_ble_eq_true rfl, Nat.le_of_ble_eq_true rfl⟩ hl.1 rfl (Nat.le_of_ble_eq_true rfl) dX8_stalest_19 ⟨Nat.zero_le _, Nat.zero_le _⟩ (fun r5 i5 g5 H locs hq hT hS => ?_)
    have eh5 := hq
    rw [(Prod.mk.inj eh5).1, (Prod.mk.inj eh5).2] at hT
    refine lv_istore_n (lv' := [(2, .int r5), (0, .ref (h 0)), (1, .int a_a)]) hx hb dX8_stalest_22 rfl hl (by decide) rfl (fun ls hl => ?_)
    refine lv_iconst (v := (-1)) hx hb dX8_stalest_23 (by decide) ?_
    refine lv_istore_n (lv' := [(3, .int (-1)), (2, .int r5), (0, .ref (h 0)), (1, .int a_a)]) hx hb dX8_stalest_24 rfl hl (by decide) rfl (fun ls hl => ?_)
    refine lv_iconst (v := (-1)) hx hb dX8_stalest_25 (by decide) ?_
    refine lv_istore (lv' := [(4, .int (-1)), (3, .int (-1)), (2, .int r5), (0, .ref (h 0)), (1, .int a_a)]) hx hb dX8_stalest_26 hl (by decide) rfl (fun ls hl => ?_)
    refine lv_iconst (v := 0) hx hb dX8_stalest_28 (by decide) ?_
    refine lv_istore (lv' := [(5, .int 0), (4, .int (-1)), (3, .int (-1)), (2, .int r5), (0, .ref (h 0)), (1, .int a_a)]) hx hb dX8_stalest_29 hl (by decide) rfl (fun ls hl => ?_)
    have L31_6 : ∀ (n8_ : Nat) (x31_3 : Int32) (x31_4 : Int32) (x31_5 : Int32) (i7 : Nat → Nat → Int32) (g7 : Nat → Nat → Int64) (H : Heap) (locs : List Loc) (ls : Array Slot), rg (-1) 5 x31_3 → rg (-1) 99 x31_4 → rg 0 6 x31_5 → Rg rA i7 → Fr [0, 65, 66, 67, 68, 69, 70, 71] [] i g (i7, g7) → TH D h cz i7 g7 H → va_S (hA h) s.heap H locs → lv_has ls 7 [(0, .ref (h 0)), (1, .int a_a), (2, .int r5), (3, .int x31_3), (4, .int x31_4), (5, .int x31_5)] → (6 - x31_5.toInt).toNat < n8_ → W p l e ({ frames := 5, cells := 0, slots := 0, locals := 111 } : Room) s m args below meth c H locs 0 0 Q (F0 m 31 ls []) := by
      intro n8_
      induction n8_ with
      | zero => intro x31_3 x31_4 x31_5 i7 g7 H locs ls hhx31_3 hhx31_4 hhx31_5 hR7 hF7 hT hS hl hm8_; exact absurd hm8_ (Nat.not_lt_zero _)
      | succ n8_ ih8_ =>
        intro x31_3 x31_4 x31_5 i7 g7 H locs ls hhx31_3 hhx31_4 hhx31_5 hR7 hF7 hT hS hl hm8_
        refine lv_iload hx hb dX8_stalest_31 (lv_at hl 5 rfl) ?_
        refine lv_aload_n hx hb dX8_stalest_33 rfl (lv_at hl 0 rfl) ?_
        refine r_getr X hT 0 3 15 fk_8_32 rfl rfl (by decide) dX8_stalest_34 ?_
        refine r_geti X hT 15 13 fk_8_156 rfl rfl (by decide) dX8_stalest_37 ?_
        refine lv_icmp_ge (tgt := 88) hx hb dX8_stalest_40 (by decide) (fun c9 => ?_) (fun c9 => ?_)
        ·
          have q9 : (i7 15 13).toInt ≤ x31_5.toInt := i_le c9
          refine lv_iload_n hx hb dX8_stalest_88 rfl (lv_at hl 3 rfl) ?_
          exact hret x31_3 _ _ _ _ _ _ dX8_stalest_89 hT hS ⟨hR7, hF7, (rg_w hhx31_3 (by decide) : rg (-2) 5 x31_3)⟩
        ·
          have q9 : x31_5.toInt < (i7 15 13).toInt := i_nle c9
          have h10 : rg 0 5 x31_5 := t_ltx 0 5 hhx31_5 (Rg_at hR7 15 13 0 6 (by decide) rfl) (i_nle c9) (by decide)
          have h11 : rg 1 6 (i7 15 13) := t_lty 1 6 hhx31_5 (Rg_at hR7 15 13 0 6 (by decide) rfl) (i_nle c9) (by decide)
          refine lv_iload_n hx hb dX8_stalest_43 rfl (lv_at hl 2 rfl) ?_
          refine lv_iload hx hb dX8_stalest_44 (lv_at hl 5 rfl) ?_
          refine e_Si (As := [.int r5, .int x31_5]) (rest := []) X Y hT hS (m_X8_hasBit r5 x31_5) sk_X8_hasBit gm_685 hd_X8_hasBit ⟨rfl, rfl⟩ ⟨Nat.le_of_ble_eq_true rfl, Nat.le_of_ble_eq_true rfl⟩ hl.1 rfl (Nat.le_of_ble_eq_true rfl) dX8_stalest_46 ⟨Nat.zero_le _, Nat.zero_le _⟩ (fun r12 i12 g12 H locs hq hT hS => ?_)
          obtain ⟨eh12, hr12⟩ := hq
          rw [(Prod.mk.inj eh12).1, (Prod.mk.inj eh12).2] at hT
          have J66_14 : ∀ (x66_14_s0 : Int32) (i15 : Nat → Nat → Int32) (g15 : Nat → Nat → Int64) (H : Heap) (locs : List Loc) (ls : Array Slot), rg (-1) 99 x66_14_s0 → Rg rA i15 → Fr [0, 65, 66, 67, 68, 69, 70, 71] [] i g (i15, g15) → TH D h cz i15 g15 H → va_S (hA h) s.heap H locs → lv_has ls 7 [(0, .ref (h 0)), (1, .int a_a), (2, .int r5), (3, .int x31_3), (4, .int x31_4), (5, .int x31_5)] → W p l e ({ frames := 5, cells := 0, slots := 0, locals := 111 } : Room) s m args below meth c H locs 0 0 Q (F0 m 66 ls [.int x66_14_s0]) := by
            intro x66_14_s0 i15 g15 H locs ls hhx66_14_s0 hR15 hF15 hT hS hl
            refine lv_istore (lv' := [(6, .int x66_14_s0), (0, .ref (h 0)), (1, .int a_a), (2, .int r5), (3, .int x31_3), (4, .int x31_4), (5, .int x31_5)]) hx hb dX8_stalest_66 hl (by decide) rfl (fun ls hl => ?_)
            refine lv_iload hx hb dX8_stalest_68 (lv_at hl 0 rfl) ?_
            refine lv_iload hx hb dX8_stalest_70 (lv_at hl 5 rfl) ?_
            refine lv_icmp_le (tgt := 82) hx hb dX8_stalest_72 (by decide) (fun c16 => ?_) (fun c16 => ?_)
            ·
              have q16 : x66_14_s0.toInt ≤ x31_4.toInt := i_le c16
              obtain ⟨x17, ex17⟩ : ∃ y : Int32, y = x31_5 + 1 := ⟨_, rfl⟩
              refine lv_iinc (v := x17) (lv' := [(5, .int x17), (6, .int x66_14_s0), (0, .ref (h 0)), (1, .int a_a), (2, .int r5), (3, .int x31_3), (4, .int x31_4)]) hx hb dX8_stalest_82 hl (k := 6) rfl (by rw [ex17]; rfl) (by decide) rfl (fun ls hl => ?_)
              obtain ⟨hx17, ax17⟩ := rg_add 1 6 ex17 h10 (rg_k (by decide) : rg 1 1 1) (by decide)
              replace ax17 : x17.toInt = x31_5.toInt + 1 := ax17
              refine lv_goto (tgt := 31) hx hb dX8_stalest_85 (by decide) ?_
              exact ih8_ x31_3 x31_4 x17 i15 g15 _ _ _ hhx31_3 hhx31_4 (rg_w hx17 (by decide) : rg 0 6 x17) hR15 hF15 hT hS (lv_sub hl [2, 3, 4, 5, 6, 0] rfl) (m_up ax17 hx17 (by decide) hm8_)
            ·
              have q16 : x31_4.toInt < x66_14_s0.toInt := i_nle c16
              have h18 : rg (-1) 98 x31_4 := t_ltx (-1) 98 hhx31_4 hhx66_14_s0 (i_nle c16) (by decide)
              have h19 : rg 0 99 x66_14_s0 := t_lty 0 99 hhx31_4 hhx66_14_s0 (i_nle c16) (by decide)
              refine lv_iload hx hb dX8_stalest_75 (lv_at hl 0 rfl) ?_
              refine lv_istore (lv' := [(4, .int x66_14_s0), (6, .int x66_14_s0), (0, .ref (h 0)), (1, .int a_a), (2, .int r5), (3, .int x31_3), (5, .int x31_5)]) hx hb dX8_stalest_77 hl (by decide) rfl (fun ls hl => ?_)
              refine lv_iload hx hb dX8_stalest_79 (lv_at hl 6 rfl) ?_
              refine lv_istore_n (lv' := [(3, .int x31_5), (4, .int x66_14_s0), (6, .int x66_14_s0), (0, .ref (h 0)), (1, .int a_a), (2, .int r5), (5, .int x31_5)]) hx hb dX8_stalest_81 rfl hl (by decide) rfl (fun ls hl => ?_)
              obtain ⟨x20, ex20⟩ : ∃ y : Int32, y = x31_5 + 1 := ⟨_, rfl⟩
              refine lv_iinc (v := x20) (lv' := [(5, .int x20), (3, .int x31_5), (4, .int x66_14_s0), (6, .int x66_14_s0), (0, .ref (h 0)), (1, .int a_a), (2, .int r5)]) hx hb dX8_stalest_82 hl (k := 6) rfl (by rw [ex20]; rfl) (by decide) rfl (fun ls hl => ?_)
              obtain ⟨hx20, ax20⟩ := rg_add 1 6 ex20 h10 (rg_k (by decide) : rg 1 1 1) (by decide)
              replace ax20 : x20.toInt = x31_5.toInt + 1 := ax20
              refine lv_goto (tgt := 31) hx hb dX8_stalest_85 (by decide) ?_
              exact ih8_ x31_5 x66_14_s0 x20 i15 g15 _ _ _ (rg_w h10 (by decide) : rg (-1) 5 x31_5) (rg_w h19 (by decide) : rg (-1) 99 x66_14_s0) (rg_w hx20 (by decide) : rg 0 6 x20) hR15 hF15 hT hS (lv_sub hl [4, 5, 6, 1, 2, 0] rfl) (m_up ax20 hx20 (by decide) hm8_)
          refine lv_if_eq (tgt := 56) hx hb dX8_stalest_49 (by decide) (fun c13 => ?_) (fun c13 => ?_)
          ·
            have q13 : r12.toInt = 0 := i_eq c13
            have h21 : rg 0 0 r12 := t_eqx 0 0 hr12 (rg_k (by decide) : rg 0 0 0) (i_eq c13) (by decide)
            refine lv_aload_n hx hb dX8_stalest_56 rfl (lv_at hl 0 rfl) ?_
            refine e_Vr (As := []) (rest := []) X Y hT hS (m_X8_current hR7) mk_X8_current gm_736 rfl rfl (by decide) hd_X8_current ⟨rfl, rfl⟩ ⟨Nat.le_of_ble_eq_true rfl, Nat.le_of_ble_eq_true rfl⟩ hl.1 rfl (Nat.le_of_ble_eq_true rfl) dX8_stalest_57 ⟨Nat.zero_le _, Nat.zero_le _⟩ (fun i22 g22 H locs hq hT hS => ?_)
            obtain ⟨hR22, hf22⟩ := hq
            have hF22 := Fr_tr hF7 hf22 (by decide)
            refine lv_iload hx hb dX8_stalest_60 (lv_at hl 5 rfl) ?_
            refine lv_iload_n hx hb dX8_stalest_62 rfl (lv_at hl 1 rfl) ?_
            refine e_Vi (As := [.int x31_5, .int a_a]) (rest := []) X Y hT hS (m_X0_stiffness_65 hR22 x31_5 a_a h10) mk_X0_stiffness gm_769 rfl rfl (by decide) hd_X0_stiffness ⟨rfl, rfl⟩ ⟨Nat.le_of_ble_eq_true rfl, Nat.le_of_ble_eq_true rfl⟩ hl.1 rfl (Nat.le_of_ble_eq_true rfl) dX8_stalest_63 ⟨Nat.zero_le _, Nat.zero_le _⟩ (fun r23 i23 g23 H locs hq hT hS => ?_)
            obtain ⟨hR23, hf23, hr23⟩ := hq
            have hF23 := Fr_tr hF22 hf23 (by decide)
            exact J66_14 r23 i23 g23 _ _ _ (rg_w hr23 (by decide) : rg (-1) 99 r23) hR23 hF23 hT hS (lv_sub hl [0, 1, 2, 3, 4, 5] rfl)
          ·
            have q13 : ¬ r12.toInt = 0 := i_ne c13
            have h24 : rg 1 1 r12 := t_nelo 1 hr12 (rg_k (by decide) : rg 0 0 0) (i_ne c13) (by decide)
            refine lv_iconst (v := (-1)) hx hb dX8_stalest_52 (by decide) ?_
            refine lv_goto (tgt := 66) hx hb dX8_stalest_53 (by decide) ?_
            exact J66_14 ((-1)) i7 g7 _ _ _ (rg_w (rg_k (by decide) : rg (-1) (-1) (-1)) (by decide) : rg (-1) 99 (-1)) hR7 hF7 hT hS (lv_sub hl [0, 1, 2, 3, 4, 5] rfl)
    exact L31_6 _ ((-1)) ((-1)) (0) i4 g4 _ _ _ (rg_w (rg_k (by decide) : rg (-1) (-1) (-1)) (by decide) : rg (-1) 5 (-1)) (rg_w (rg_k (by decide) : rg (-1) (-1) (-1)) (by decide) : rg (-1) 99 (-1)) (rg_w (rg_k (by decide) : rg 0 0 0) (by decide) : rg 0 6 0) hR4 hF4 hT hS (lv_sub hl [4, 5, 3, 2, 1, 0] rfl) (Nat.lt_succ_self _)
  ·
    obtain ⟨eh1, rfl⟩ := hq
    rw [(Prod.mk.inj eh1).1, (Prod.mk.inj eh1).2] at hT
    refine lv_if_ne (tgt := 14) hx hb dX8_stalest_8 (by decide) (fun c25 => (x_ne (rg_k (by decide) : rg 0 0 0) (rg_k (by decide) : rg 0 0 0) (i_ne c25) (by decide)).elim) (fun c25 => ?_)
    refine lv_bipush (v := (-2)) hx hb dX8_stalest_11 (by decide) ?_
    exact hret (-2) _ _ _ _ _ _ dX8_stalest_13 hT hS ⟨hR, hF, (rg_w (rg_k (by decide) : rg (-2) (-2) (-2)) (by decide) : rg (-2) 5 (-2))⟩
set_option maxRecDepth 100000 in
set_option maxHeartbeats 4000000 in
theorem m_X6_joinedWith_15 {l : Launch} {D : va_G} {h : Nat → Nat} {cz : Nat → ClassId} {z : EZ} {i : Nat → Nat → Int32} {g : Nat → Nat → Int64} (hR : Rg rA i) (a_a : Int32) : DtI l yX6_joinedWith cX6_joinedWith 4 (some .int) ({ frames := 2, cells := 0, slots := 0, locals := 47 } : Room) D h cz z i g [.ref (h 15), .int a_a] (fun r u => u = (i, g)) := by
  refine e_I pn_X6_joinedWith (Nat.le_of_ble_eq_true rfl) ?_
  intro p e s m args below meth c ls Q X Y hret hT hl hS
  have hx := X.1
  have hb := X.2.1
  have hl : lv_has ls 4 [(0, .ref (h 15)), (1, .int a_a)] := hl
  refine lv_iconst (v := 1) hx hb dX6_joinedWith_0 (by decide) ?_
  refine lv_iload_n hx hb dX6_joinedWith_1 rfl (lv_at hl 1 rfl) ?_
  refine q_ishl hx hb dX6_joinedWith_2 (fun x1 ex1 => ?_)
  refine lv_istore_n (lv' := [(2, .int x1), (0, .ref (h 15)), (1, .int a_a)]) hx hb dX6_joinedWith_3 rfl hl (by decide) rfl (fun ls hl => ?_)
  refine lv_iconst (v := 1) hx hb dX6_joinedWith_4 (by decide) ?_
  refine lv_istore_n (lv' := [(3, .int 1), (2, .int x1), (0, .ref (h 15)), (1, .int a_a)]) hx hb dX6_joinedWith_5 rfl hl (by decide) rfl (fun ls hl => ?_)
  have L6_2 : ∀ (n3_ : Nat) (x6_2 : Int32) (x6_3 : Int32) (H : Heap) (locs : List Loc) (ls : Array Slot), rg 1 6 x6_3 → TH D h cz i g H → va_S (hA h) s.heap H locs → lv_has ls 4 [(0, .ref (h 15)), (2, .int x6_2), (3, .int x6_3)] → (6 - x6_3.toInt).toNat < n3_ → W p l e ({ frames := 2, cells := 0, slots := 0, locals := 47 } : Room) s m args below meth c H locs 0 0 Q (F0 m 6 ls []) := by
    intro n3_
    induction n3_ with
    | zero => intro x6_2 x6_3 H locs ls hhx6_3 hT hS hl hm3_; exact absurd hm3_ (Nat.not_lt_zero _)
    | succ n3_ ih3_ =>
      intro x6_2 x6_3 H locs ls hhx6_3 hT hS hl hm3_
      refine lv_iload_n hx hb dX6_joinedWith_6 rfl (lv_at hl 2 rfl) ?_
      refine lv_bipush (v := 6) hx hb dX6_joinedWith_7 (by decide) ?_
      refine lv_icmp_ge (tgt := 24) hx hb dX6_joinedWith_9 (by decide) (fun c4 => ?_) (fun c4 => ?_)
      ·
        have q4 : 6 ≤ x6_3.toInt := i_le c4
        have h5 : rg 6 6 x6_3 := t_ley 6 6 (rg_k (by decide) : rg 6 6 6) hhx6_3 (i_le c4) (by decide)
        refine lv_iload_n hx hb dX6_joinedWith_24 rfl (lv_at hl 1 rfl) ?_
        exact hret x6_2 _ _ _ _ _ _ dX6_joinedWith_25 hT hS rfl
      ·
        have q4 : x6_3.toInt < 6 := i_nle c4
        have h6 : rg 1 5 x6_3 := t_ltx 1 5 hhx6_3 (rg_k (by decide) : rg 6 6 6) (i_nle c4) (by decide)
        refine lv_aload_n hx hb dX6_joinedWith_12 rfl (lv_at hl 0 rfl) ?_
        refine lv_iload_n hx hb dX6_joinedWith_13 rfl (lv_at hl 1 rfl) ?_
        refine e_Vi (As := [.int x6_2]) (rest := []) X Y hT hS (m_X6_spread_15 hR x6_2) mk_X6_spread gm_706 rfl rfl (by decide) hd_X6_spread ⟨rfl, rfl⟩ ⟨Nat.le_of_ble_eq_true rfl, Nat.le_of_ble_eq_true rfl⟩ hl.1 rfl (Nat.le_of_ble_eq_true rfl) dX6_joinedWith_14 ⟨Nat.zero_le _, Nat.zero_le _⟩ (fun r7 i7 g7 H locs hq hT hS => ?_)
        have eh7 := hq
        rw [(Prod.mk.inj eh7).1, (Prod.mk.inj eh7).2] at hT
        refine lv_istore_n (lv' := [(2, .int r7), (0, .ref (h 15)), (3, .int x6_3)]) hx hb dX6_joinedWith_17 rfl hl (by decide) rfl (fun ls hl => ?_)
        obtain ⟨x8, ex8⟩ : ∃ y : Int32, y = x6_3 + 1 := ⟨_, rfl⟩
        refine lv_iinc (v := x8) (lv' := [(3, .int x8), (2, .int r7), (0, .ref (h 15))]) hx hb dX6_joinedWith_18 hl (k := 2) rfl (by rw [ex8]; rfl) (by decide) rfl (fun ls hl => ?_)
        obtain ⟨hx8, ax8⟩ := rg_add 2 6 ex8 h6 (rg_k (by decide) : rg 1 1 1) (by decide)
        replace ax8 : x8.toInt = x6_3.toInt + 1 := ax8
        refine lv_goto (tgt := 6) hx hb dX6_joinedWith_21 (by decide) ?_
        exact ih3_ r7 x8 _ _ _ (rg_w hx8 (by decide) : rg 1 6 x8) hT hS (lv_sub hl [2, 1, 0] rfl) (m_up ax8 hx8 (by decide) hm3_)
  exact L6_2 _ x1 (1) _ _ _ (rg_w (rg_k (by decide) : rg 1 1 1) (by decide) : rg 1 6 1) hT hS (lv_sub hl [2, 1, 0] rfl) (Nat.lt_succ_self _)
set_option maxRecDepth 100000 in
set_option maxHeartbeats 4000000 in
theorem m_X8_pieces {l : Launch} {D : va_G} {h : Nat → Nat} {cz : Nat → ClassId} {z : EZ} {i : Nat → Nat → Int32} {g : Nat → Nat → Int64} (hR : Rg rA i) : DtI l yX8_pieces cX8_pieces 4 (some .int) ({ frames := 3, cells := 0, slots := 0, locals := 70 } : Room) D h cz z i g [.ref (h 0)] (fun r u => u = (i, g)) := by
  refine e_I pn_X8_pieces (Nat.le_of_ble_eq_true rfl) ?_
  intro p e s m args below meth c ls Q X Y hret hT hl hS
  have hx := X.1
  have hb := X.2.1
  have hl : lv_has ls 4 [(0, .ref (h 0))] := hl
  refine lv_aload_n hx hb dX8_pieces_0 rfl (lv_at hl 0 rfl) ?_
  refine r_getr X hT 0 3 15 fk_8_32 rfl rfl (by decide) dX8_pieces_1 ?_
  refine e_Vi (As := []) (rest := []) X Y hT hS (m_X6_isTold_15 hR) mk_X6_isTold gm_698 rfl rfl (by decide) hd_X6_isTold ⟨rfl, rfl⟩ ⟨Nat.le_of_ble_eq_true rfl, Nat.le_of_ble_eq_true rfl⟩ hl.1 rfl (Nat.le_of_ble_eq_true rfl) dX8_pieces_4 ⟨Nat.zero_le _, Nat.zero_le _⟩ (fun r1 i1 g1 H locs hq hT hS => ?_)
  obtain ⟨eh1, hr1⟩ := hq
  rw [(Prod.mk.inj eh1).1, (Prod.mk.inj eh1).2] at hT
  refine lv_if_ne (tgt := 13) hx hb dX8_pieces_7 (by decide) (fun c2 => ?_) (fun c2 => ?_)
  ·
    have q2 : ¬ r1.toInt = 0 := i_ne c2
    have h3 : rg 1 1 r1 := t_nelo 1 hr1 (rg_k (by decide) : rg 0 0 0) (i_ne c2) (by decide)
    refine lv_iconst (v := 0) hx hb dX8_pieces_13 (by decide) ?_
    refine lv_istore_n (lv' := [(1, .int 0), (0, .ref (h 0))]) hx hb dX8_pieces_14 rfl hl (by decide) rfl (fun ls hl => ?_)
    refine lv_iconst (v := 0) hx hb dX8_pieces_15 (by decide) ?_
    refine lv_istore_n (lv' := [(2, .int 0), (1, .int 0), (0, .ref (h 0))]) hx hb dX8_pieces_16 rfl hl (by decide) rfl (fun ls hl => ?_)
    refine lv_iconst (v := 0) hx hb dX8_pieces_17 (by decide) ?_
    refine lv_istore_n (lv' := [(3, .int 0), (2, .int 0), (1, .int 0), (0, .ref (h 0))]) hx hb dX8_pieces_18 rfl hl (by decide) rfl (fun ls hl => ?_)
    have L19_4 : ∀ (n5_ : Nat) (x19_1 : Int32) (x19_2 : Int32) (x19_3 : Int32) (H : Heap) (locs : List Loc) (ls : Array Slot), rg 0 6 x19_3 → TH D h cz i g H → va_S (hA h) s.heap H locs → lv_has ls 4 [(0, .ref (h 0)), (1, .int x19_1), (2, .int x19_2), (3, .int x19_3)] → (6 - x19_3.toInt).toNat < n5_ → W p l e ({ frames := 3, cells := 0, slots := 0, locals := 70 } : Room) s m args below meth c H locs 0 0 Q (F0 m 19 ls []) := by
      intro n5_
      induction n5_ with
      | zero => intro x19_1 x19_2 x19_3 H locs ls hhx19_3 hT hS hl hm5_; exact absurd hm5_ (Nat.not_lt_zero _)
      | succ n5_ ih5_ =>
        intro x19_1 x19_2 x19_3 H locs ls hhx19_3 hT hS hl hm5_
        refine lv_iload_n hx hb dX8_pieces_19 rfl (lv_at hl 3 rfl) ?_
        refine lv_aload_n hx hb dX8_pieces_20 rfl (lv_at hl 0 rfl) ?_
        refine r_getr X hT 0 3 15 fk_8_32 rfl rfl (by decide) dX8_pieces_21 ?_
        refine r_geti X hT 15 13 fk_8_156 rfl rfl (by decide) dX8_pieces_24 ?_
        refine lv_icmp_ge (tgt := 58) hx hb dX8_pieces_27 (by decide) (fun c6 => ?_) (fun c6 => ?_)
        ·
          have q6 : (i 15 13).toInt ≤ x19_3.toInt := i_le c6
          refine lv_iload_n hx hb dX8_pieces_58 rfl (lv_at hl 1 rfl) ?_
          exact hret x19_1 _ _ _ _ _ _ dX8_pieces_59 hT hS rfl
        ·
          have q6 : x19_3.toInt < (i 15 13).toInt := i_nle c6
          have h7 : rg 0 5 x19_3 := t_ltx 0 5 hhx19_3 (Rg_at hR 15 13 0 6 (by decide) rfl) (i_nle c6) (by decide)
          have h8 : rg 1 6 (i 15 13) := t_lty 1 6 hhx19_3 (Rg_at hR 15 13 0 6 (by decide) rfl) (i_nle c6) (by decide)
          refine lv_iload_n hx hb dX8_pieces_30 rfl (lv_at hl 2 rfl) ?_
          refine lv_iload_n hx hb dX8_pieces_31 rfl (lv_at hl 3 rfl) ?_
          refine e_Si (As := [.int x19_2, .int x19_3]) (rest := []) X Y hT hS (m_X8_hasBit x19_2 x19_3) sk_X8_hasBit gm_685 hd_X8_hasBit ⟨rfl, rfl⟩ ⟨Nat.le_of_ble_eq_true rfl, Nat.le_of_ble_eq_true rfl⟩ hl.1 rfl (Nat.le_of_ble_eq_true rfl) dX8_pieces_32 ⟨Nat.zero_le _, Nat.zero_le _⟩ (fun r9 i9 g9 H locs hq hT hS => ?_)
          obtain ⟨eh9, hr9⟩ := hq
          rw [(Prod.mk.inj eh9).1, (Prod.mk.inj eh9).2] at hT
          refine lv_if_ne (tgt := 52) hx hb dX8_pieces_35 (by decide) (fun c10 => ?_) (fun c10 => ?_)
          ·
            have q10 : ¬ r9.toInt = 0 := i_ne c10
            have h11 : rg 1 1 r9 := t_nelo 1 hr9 (rg_k (by decide) : rg 0 0 0) (i_ne c10) (by decide)
            obtain ⟨x12, ex12⟩ : ∃ y : Int32, y = x19_3 + 1 := ⟨_, rfl⟩
            refine lv_iinc (v := x12) (lv' := [(3, .int x12), (0, .ref (h 0)), (1, .int x19_1), (2, .int x19_2)]) hx hb dX8_pieces_52 hl (k := 3) rfl (by rw [ex12]; rfl) (by decide) rfl (fun ls hl => ?_)
            obtain ⟨hx12, ax12⟩ := rg_add 1 6 ex12 h7 (rg_k (by decide) : rg 1 1 1) (by decide)
            replace ax12 : x12.toInt = x19_3.toInt + 1 := ax12
            refine lv_goto (tgt := 19) hx hb dX8_pieces_55 (by decide) ?_
            exact ih5_ x19_1 x19_2 x12 _ _ _ (rg_w hx12 (by decide) : rg 0 6 x12) hT hS (lv_sub hl [1, 2, 3, 0] rfl) (m_up ax12 hx12 (by decide) hm5_)
          ·
            have q10 : r9.toInt = 0 := i_eq c10
            have h13 : rg 0 0 r9 := t_eqx 0 0 hr9 (rg_k (by decide) : rg 0 0 0) (i_eq c10) (by decide)
            obtain ⟨x14, ex14⟩ : ∃ y : Int32, y = x19_1 + 1 := ⟨_, rfl⟩
            refine lv_iinc (v := x14) (lv' := [(1, .int x14), (0, .ref (h 0)), (2, .int x19_2), (3, .int x19_3)]) hx hb dX8_pieces_38 hl (k := 1) rfl (by rw [ex14]; rfl) (by decide) rfl (fun ls hl => ?_)
            refine lv_iload_n hx hb dX8_pieces_41 rfl (lv_at hl 2 rfl) ?_
            refine lv_aload_n hx hb dX8_pieces_42 rfl (lv_at hl 1 rfl) ?_
            refine r_getr X hT 0 3 15 fk_8_32 rfl rfl (by decide) dX8_pieces_43 ?_
            refine lv_iload_n hx hb dX8_pieces_46 rfl (lv_at hl 3 rfl) ?_
            refine e_Vi (As := [.int x19_3]) (rest := [.int x19_2]) X Y hT hS (m_X6_joinedWith_15 hR x19_3) mk_X6_joinedWith gm_702 rfl rfl (by decide) hd_X6_joinedWith ⟨rfl, rfl⟩ ⟨Nat.le_of_ble_eq_true rfl, Nat.le_of_ble_eq_true rfl⟩ hl.1 rfl (Nat.le_of_ble_eq_true rfl) dX8_pieces_47 ⟨Nat.zero_le _, Nat.zero_le _⟩ (fun r15 i15 g15 H locs hq hT hS => ?_)
            have eh15 := hq
            rw [(Prod.mk.inj eh15).1, (Prod.mk.inj eh15).2] at hT
            refine q_ior hx hb dX8_pieces_50 (fun x16 ex16 => ?_)
            refine lv_istore_n (lv' := [(2, .int x16), (1, .int x14), (0, .ref (h 0)), (3, .int x19_3)]) hx hb dX8_pieces_51 rfl hl (by decide) rfl (fun ls hl => ?_)
            obtain ⟨x17, ex17⟩ : ∃ y : Int32, y = x19_3 + 1 := ⟨_, rfl⟩
            refine lv_iinc (v := x17) (lv' := [(3, .int x17), (2, .int x16), (1, .int x14), (0, .ref (h 0))]) hx hb dX8_pieces_52 hl (k := 3) rfl (by rw [ex17]; rfl) (by decide) rfl (fun ls hl => ?_)
            obtain ⟨hx17, ax17⟩ := rg_add 1 6 ex17 h7 (rg_k (by decide) : rg 1 1 1) (by decide)
            replace ax17 : x17.toInt = x19_3.toInt + 1 := ax17
            refine lv_goto (tgt := 19) hx hb dX8_pieces_55 (by decide) ?_
            exact ih5_ x14 x16 x17 _ _ _ (rg_w hx17 (by decide) : rg 0 6 x17) hT hS (lv_sub hl [3, 2, 1, 0] rfl) (m_up ax17 hx17 (by decide) hm5_)
    exact L19_4 _ (0) (0) (0) _ _ _ (rg_w (rg_k (by decide) : rg 0 0 0) (by decide) : rg 0 6 0) hT hS (lv_sub hl [3, 2, 1, 0] rfl) (Nat.lt_succ_self _)
  ·
    have q2 : r1.toInt = 0 := i_eq c2
    have h18 : rg 0 0 r1 := t_eqx 0 0 hr1 (rg_k (by decide) : rg 0 0 0) (i_eq c2) (by decide)
    refine lv_bipush (v := (-2)) hx hb dX8_pieces_10 (by decide) ?_
    exact hret (-2) _ _ _ _ _ _ dX8_pieces_12 hT hS rfl
set_option maxRecDepth 100000 in
set_option maxHeartbeats 4000000 in
theorem m_X8_lost {l : Launch} {D : va_G} {h : Nat → Nat} {cz : Nat → ClassId} {z : EZ} {i : Nat → Nat → Int32} {g : Nat → Nat → Int64} (hR : Rg rA i) : DtI l yX8_lost cX8_lost 4 (some .int) ({ frames := 5, cells := 0, slots := 0, locals := 111 } : Room) D h cz z i g [.ref (h 0)] (fun r u => Rg rA u.1 ∧ Fr [0, 65, 66, 67, 68, 69, 70, 71] [] i g u) := by
  refine e_I pn_X8_lost (Nat.le_of_ble_eq_true rfl) ?_
  intro p e s m args below meth c ls Q X Y hret hT hl hS
  have hx := X.1
  have hb := X.2.1
  have hl : lv_has ls 4 [(0, .ref (h 0))] := hl
  have hF : Fr [0, 65, 66, 67, 68, 69, 70, 71] [] i g (i, g) := Fr_rf _ _ _ _
  refine lv_aload_n hx hb dX8_lost_0 rfl (lv_at hl 0 rfl) ?_
  refine r_getr X hT 0 3 15 fk_8_32 rfl rfl (by decide) dX8_lost_1 ?_
  refine e_Vi (As := []) (rest := []) X Y hT hS (m_X6_isTold_15 hR) mk_X6_isTold gm_698 rfl rfl (by decide) hd_X6_isTold ⟨rfl, rfl⟩ ⟨Nat.le_of_ble_eq_true rfl, Nat.le_of_ble_eq_true rfl⟩ hl.1 rfl (Nat.le_of_ble_eq_true rfl) dX8_lost_4 ⟨Nat.zero_le _, Nat.zero_le _⟩ (fun r1 i1 g1 H locs hq hT hS => ?_)
  obtain ⟨eh1, hr1⟩ := hq
  rw [(Prod.mk.inj eh1).1, (Prod.mk.inj eh1).2] at hT
  refine lv_if_ne (tgt := 13) hx hb dX8_lost_7 (by decide) (fun c2 => ?_) (fun c2 => ?_)
  ·
    have q2 : ¬ r1.toInt = 0 := i_ne c2
    have h3 : rg 1 1 r1 := t_nelo 1 hr1 (rg_k (by decide) : rg 0 0 0) (i_ne c2) (by decide)
    refine lv_iconst (v := 0) hx hb dX8_lost_13 (by decide) ?_
    refine lv_istore_n (lv' := [(1, .int 0), (0, .ref (h 0))]) hx hb dX8_lost_14 rfl hl (by decide) rfl (fun ls hl => ?_)
    refine lv_iconst (v := 0) hx hb dX8_lost_15 (by decide) ?_
    refine lv_istore_n (lv' := [(2, .int 0), (1, .int 0), (0, .ref (h 0))]) hx hb dX8_lost_16 rfl hl (by decide) rfl (fun ls hl => ?_)
    have L17_4 : ∀ (n6_ : Nat) (x17_1 : Int32) (x17_2 : Int32) (i5 : Nat → Nat → Int32) (g5 : Nat → Nat → Int64) (H : Heap) (locs : List Loc) (ls : Array Slot), rg 0 6 x17_2 → Rg rA i5 → Fr [0, 65, 66, 67, 68, 69, 70, 71] [] i g (i5, g5) → TH D h cz i5 g5 H → va_S (hA h) s.heap H locs → lv_has ls 4 [(0, .ref (h 0)), (1, .int x17_1), (2, .int x17_2)] → (6 - x17_2.toInt).toNat < n6_ → W p l e ({ frames := 5, cells := 0, slots := 0, locals := 111 } : Room) s m args below meth c H locs 0 0 Q (F0 m 17 ls []) := by
      intro n6_
      induction n6_ with
      | zero => intro x17_1 x17_2 i5 g5 H locs ls hhx17_2 hR5 hF5 hT hS hl hm6_; exact absurd hm6_ (Nat.not_lt_zero _)
      | succ n6_ ih6_ =>
        intro x17_1 x17_2 i5 g5 H locs ls hhx17_2 hR5 hF5 hT hS hl hm6_
        refine lv_iload_n hx hb dX8_lost_17 rfl (lv_at hl 2 rfl) ?_
        refine lv_aload_n hx hb dX8_lost_18 rfl (lv_at hl 0 rfl) ?_
        refine r_getr X hT 0 3 15 fk_8_32 rfl rfl (by decide) dX8_lost_19 ?_
        refine r_geti X hT 15 13 fk_8_156 rfl rfl (by decide) dX8_lost_22 ?_
        refine lv_icmp_ge (tgt := 66) hx hb dX8_lost_25 (by decide) (fun c7 => ?_) (fun c7 => ?_)
        ·
          have q7 : (i5 15 13).toInt ≤ x17_2.toInt := i_le c7
          refine lv_iload_n hx hb dX8_lost_66 rfl (lv_at hl 1 rfl) ?_
          exact hret x17_1 _ _ _ _ _ _ dX8_lost_67 hT hS ⟨hR5, hF5⟩
        ·
          have q7 : x17_2.toInt < (i5 15 13).toInt := i_nle c7
          have h8 : rg 0 5 x17_2 := t_ltx 0 5 hhx17_2 (Rg_at hR5 15 13 0 6 (by decide) rfl) (i_nle c7) (by decide)
          have h9 : rg 1 6 (i5 15 13) := t_lty 1 6 hhx17_2 (Rg_at hR5 15 13 0 6 (by decide) rfl) (i_nle c7) (by decide)
          refine lv_aload_n hx hb dX8_lost_28 rfl (lv_at hl 0 rfl) ?_
          refine e_Vr (As := []) (rest := []) X Y hT hS (m_X8_current hR5) mk_X8_current gm_736 rfl rfl (by decide) hd_X8_current ⟨rfl, rfl⟩ ⟨Nat.le_of_ble_eq_true rfl, Nat.le_of_ble_eq_true rfl⟩ hl.1 rfl (Nat.le_of_ble_eq_true rfl) dX8_lost_29 ⟨Nat.zero_le _, Nat.zero_le _⟩ (fun i10 g10 H locs hq hT hS => ?_)
          obtain ⟨hR10, hf10⟩ := hq
          have hF10 := Fr_tr hF5 hf10 (by decide)
          refine lv_iload_n hx hb dX8_lost_32 rfl (lv_at hl 2 rfl) ?_
          refine e_Vi (As := [.int x17_2]) (rest := []) X Y hT hS (m_X0_readFor_65 hR10 x17_2 h8) mk_X0_readFor gm_819 rfl rfl (by decide) hd_X0_readFor ⟨rfl, rfl⟩ ⟨Nat.le_of_ble_eq_true rfl, Nat.le_of_ble_eq_true rfl⟩ hl.1 rfl (Nat.le_of_ble_eq_true rfl) dX8_lost_33 ⟨Nat.zero_le _, Nat.zero_le _⟩ (fun r11 i11 g11 H locs hq hT hS => ?_)
          obtain ⟨hR11, hf11, hr11⟩ := hq
          have hF11 := Fr_tr hF10 hf11 (by decide)
          refine lv_istore_n (lv' := [(3, .int r11), (0, .ref (h 0)), (1, .int x17_1), (2, .int x17_2)]) hx hb dX8_lost_36 rfl hl (by decide) rfl (fun ls hl => ?_)
          refine lv_iload_n hx hb dX8_lost_37 rfl (lv_at hl 2 rfl) ?_
          refine lv_iload_n hx hb dX8_lost_38 rfl (lv_at hl 0 rfl) ?_
          refine lv_iconst (v := (-1)) hx hb dX8_lost_39 (by decide) ?_
          refine lv_icmp_ne (tgt := 47) hx hb dX8_lost_40 (by decide) (fun c12 => ?_) (fun c12 => ?_)
          ·
            have q12 : ¬ r11.toInt = (-1) := i_ne c12
            have h13 : rg 0 60 r11 := t_nelo 0 hr11 (rg_k (by decide) : rg (-1) (-1) (-1)) (i_ne c12) (by decide)
            refine lv_aload_n hx hb dX8_lost_47 rfl (lv_at hl 1 rfl) ?_
            refine r_getr X hT 0 3 15 fk_8_32 rfl rfl (by decide) dX8_lost_48 ?_
            refine r_getr X hT 15 0 16 fk_8_131 rfl rfl (by decide) dX8_lost_51 ?_
            refine lv_iload_n hx hb dX8_lost_54 rfl (lv_at hl 3 rfl) ?_
            refine r_iald X hT 16 rfl (by decide) (v_in h8 (by decide)) dX8_lost_55 ?_
            refine lv_iload_n hx hb dX8_lost_56 rfl (lv_at hl 0 rfl) ?_
            refine q_isub hx hb dX8_lost_57 (fun x14 ex14 => ?_)
            obtain ⟨hx14, ax14⟩ := rg_sub (-60) 60 ex14 (Rg_at hR11 16 x17_2.toNatClampNeg 0 60 (v_lt (v_in h8 (by decide))) rfl) h13 (by decide)
            replace ax14 : x14.toInt = (i11 16 x17_2.toNatClampNeg).toInt - r11.toInt := ax14
            refine q_iadd hx hb dX8_lost_58 (fun x15 ex15 => ?_)
            refine lv_istore_n (lv' := [(1, .int x15), (3, .int r11), (0, .ref (h 0)), (2, .int x17_2)]) hx hb dX8_lost_59 rfl hl (by decide) rfl (fun ls hl => ?_)
            obtain ⟨x16, ex16⟩ : ∃ y : Int32, y = x17_2 + 1 := ⟨_, rfl⟩
            refine lv_iinc (v := x16) (lv' := [(2, .int x16), (1, .int x15), (3, .int r11), (0, .ref (h 0))]) hx hb dX8_lost_60 hl (k := 3) rfl (by rw [ex16]; rfl) (by decide) rfl (fun ls hl => ?_)
            obtain ⟨hx16, ax16⟩ := rg_add 1 6 ex16 h8 (rg_k (by decide) : rg 1 1 1) (by decide)
            replace ax16 : x16.toInt = x17_2.toInt + 1 := ax16
            refine lv_goto (tgt := 17) hx hb dX8_lost_63 (by decide) ?_
            exact ih6_ x15 x16 i11 g11 _ _ _ (rg_w hx16 (by decide) : rg 0 6 x16) hR11 hF11 hT hS (lv_sub hl [3, 1, 0] rfl) (m_up ax16 hx16 (by decide) hm6_)
          ·
            have q12 : r11.toInt = (-1) := i_eq c12
            have h17 : rg (-1) (-1) r11 := t_eqx (-1) (-1) hr11 (rg_k (by decide) : rg (-1) (-1) (-1)) (i_eq c12) (by decide)
            refine lv_iconst (v := 0) hx hb dX8_lost_43 (by decide) ?_
            refine lv_goto (tgt := 58) hx hb dX8_lost_44 (by decide) ?_
            refine q_iadd hx hb dX8_lost_58 (fun x18 ex18 => ?_)
            obtain ⟨hx18, ax18⟩ := rg_add (-2147483648) 2147483647 ex18 (rg_top x17_1) (rg_k (by decide) : rg 0 0 0) (by decide)
            replace ax18 : x18.toInt = x17_1.toInt + 0 := ax18
            refine lv_istore_n (lv' := [(1, .int x18), (3, .int r11), (0, .ref (h 0)), (2, .int x17_2)]) hx hb dX8_lost_59 rfl hl (by decide) rfl (fun ls hl => ?_)
            obtain ⟨x19, ex19⟩ : ∃ y : Int32, y = x17_2 + 1 := ⟨_, rfl⟩
            refine lv_iinc (v := x19) (lv' := [(2, .int x19), (1, .int x18), (3, .int r11), (0, .ref (h 0))]) hx hb dX8_lost_60 hl (k := 3) rfl (by rw [ex19]; rfl) (by decide) rfl (fun ls hl => ?_)
            obtain ⟨hx19, ax19⟩ := rg_add 1 6 ex19 h8 (rg_k (by decide) : rg 1 1 1) (by decide)
            replace ax19 : x19.toInt = x17_2.toInt + 1 := ax19
            refine lv_goto (tgt := 17) hx hb dX8_lost_63 (by decide) ?_
            exact ih6_ x18 x19 i11 g11 _ _ _ (rg_w hx19 (by decide) : rg 0 6 x19) hR11 hF11 hT hS (lv_sub hl [3, 1, 0] rfl) (m_up ax19 hx19 (by decide) hm6_)
    exact L17_4 _ (0) (0) i g _ _ _ (rg_w (rg_k (by decide) : rg 0 0 0) (by decide) : rg 0 6 0) hR hF hT hS (lv_sub hl [2, 1, 0] rfl) (Nat.lt_succ_self _)
  ·
    have q2 : r1.toInt = 0 := i_eq c2
    have h20 : rg 0 0 r1 := t_eqx 0 0 hr1 (rg_k (by decide) : rg 0 0 0) (i_eq c2) (by decide)
    refine lv_bipush (v := (-2)) hx hb dX8_lost_10 (by decide) ?_
    exact hret (-2) _ _ _ _ _ _ dX8_lost_12 hT hS ⟨hR, hF⟩
set_option maxRecDepth 100000 in
set_option maxHeartbeats 4000000 in
theorem m_X8_knives {l : Launch} {D : va_G} {h : Nat → Nat} {cz : Nat → ClassId} {z : EZ} {i : Nat → Nat → Int32} {g : Nat → Nat → Int64} (hR : Rg rA i) (a_a : Int32) : DtI l yX8_knives cX8_knives 4 (some .int) ({ frames := 1, cells := 0, slots := 0, locals := 21 } : Room) D h cz z i g [.ref (h 0), .int a_a] (fun r u => u = (i, g) ∧ rg (-2) 255 r) := by
  refine e_I pn_X8_knives (Nat.le_of_ble_eq_true rfl) ?_
  intro p e s m args below meth c ls Q X Y hret hT hl hS
  have hx := X.1
  have hb := X.2.1
  have hl : lv_has ls 4 [(0, .ref (h 0)), (1, .int a_a)] := hl
  refine lv_aload_n hx hb dX8_knives_0 rfl (lv_at hl 0 rfl) ?_
  refine r_getr X hT 0 3 15 fk_8_32 rfl rfl (by decide) dX8_knives_1 ?_
  refine lv_iload_n hx hb dX8_knives_4 rfl (lv_at hl 1 rfl) ?_
  refine e_Vi (As := [.int a_a]) (rest := []) X Y hT hS (m_X6_hasPart_15 hR a_a) mk_X6_hasPart gm_669 rfl rfl (by decide) hd_X6_hasPart ⟨rfl, rfl⟩ ⟨Nat.le_of_ble_eq_true rfl, Nat.le_of_ble_eq_true rfl⟩ hl.1 rfl (Nat.le_of_ble_eq_true rfl) dX8_knives_5 ⟨Nat.zero_le _, Nat.zero_le _⟩ (fun r1 i1 g1 H locs hq hT hS => ?_)
  rcases hq with hq | hq
  ·
    obtain ⟨eh1, rfl, hf1_0⟩ := hq
    rw [(Prod.mk.inj eh1).1, (Prod.mk.inj eh1).2] at hT
    have h2 : rg 0 5 a_a := ⟨by have := (rg_top a_a).1; have := hf1_0.1; omega, by have := (rg_top a_a).2; have := hf1_0.2; omega⟩
    refine lv_if_ne (tgt := 14) hx hb dX8_knives_8 (by decide) (fun c3 => ?_) (fun c3 => (x_eq (rg_k (by decide) : rg 1 1 1) (rg_k (by decide) : rg 0 0 0) (i_eq c3) (by decide)).elim)
    refine lv_iconst (v := 0) hx hb dX8_knives_14 (by decide) ?_
    refine lv_istore_n (lv' := [(2, .int 0), (0, .ref (h 0)), (1, .int a_a)]) hx hb dX8_knives_15 rfl hl (by decide) rfl (fun ls hl => ?_)
    refine lv_iconst (v := 0) hx hb dX8_knives_16 (by decide) ?_
    refine lv_istore_n (lv' := [(3, .int 0), (2, .int 0), (0, .ref (h 0)), (1, .int a_a)]) hx hb dX8_knives_17 rfl hl (by decide) rfl (fun ls hl => ?_)
    have L18_4 : ∀ (n5_ : Nat) (x18_2 : Int32) (x18_3 : Int32) (H : Heap) (locs : List Loc) (ls : Array Slot), rg 0 255 x18_2 → rg 0 8 x18_3 → TH D h cz i g H → va_S (hA h) s.heap H locs → lv_has ls 4 [(0, .ref (h 0)), (1, .int a_a), (2, .int x18_2), (3, .int x18_3)] → (8 - x18_3.toInt).toNat < n5_ → W p l e ({ frames := 1, cells := 0, slots := 0, locals := 21 } : Room) s m args below meth c H locs 0 0 Q (F0 m 18 ls []) := by
      intro n5_
      induction n5_ with
      | zero => intro x18_2 x18_3 H locs ls hhx18_2 hhx18_3 hT hS hl hm5_; exact absurd hm5_ (Nat.not_lt_zero _)
      | succ n5_ ih5_ =>
        intro x18_2 x18_3 H locs ls hhx18_2 hhx18_3 hT hS hl hm5_
        refine lv_iload_n hx hb dX8_knives_18 rfl (lv_at hl 3 rfl) ?_
        refine lv_aload_n hx hb dX8_knives_19 rfl (lv_at hl 0 rfl) ?_
        refine r_getr X hT 0 3 15 fk_8_32 rfl rfl (by decide) dX8_knives_20 ?_
        refine r_geti X hT 15 15 fk_8_162 rfl rfl (by decide) dX8_knives_23 ?_
        refine lv_icmp_ge (tgt := 54) hx hb dX8_knives_26 (by decide) (fun c6 => ?_) (fun c6 => ?_)
        ·
          have q6 : (i 15 15).toInt ≤ x18_3.toInt := i_le c6
          refine lv_iload_n hx hb dX8_knives_54 rfl (lv_at hl 2 rfl) ?_
          exact hret x18_2 _ _ _ _ _ _ dX8_knives_55 hT hS ⟨rfl, (rg_w hhx18_2 (by decide) : rg (-2) 255 x18_2)⟩
        ·
          have q6 : x18_3.toInt < (i 15 15).toInt := i_nle c6
          have h7 : rg 0 7 x18_3 := t_ltx 0 7 hhx18_3 (Rg_at hR 15 15 0 8 (by decide) rfl) (i_nle c6) (by decide)
          have h8 : rg 1 8 (i 15 15) := t_lty 1 8 hhx18_3 (Rg_at hR 15 15 0 8 (by decide) rfl) (i_nle c6) (by decide)
          refine lv_aload_n hx hb dX8_knives_29 rfl (lv_at hl 0 rfl) ?_
          refine r_getr X hT 0 3 15 fk_8_32 rfl rfl (by decide) dX8_knives_30 ?_
          refine r_getr X hT 15 5 21 fk_8_165 rfl rfl (by decide) dX8_knives_33 ?_
          refine lv_iload_n hx hb dX8_knives_36 rfl (lv_at hl 3 rfl) ?_
          refine r_iald X hT 21 rfl (by decide) (v_in h7 (by decide)) dX8_knives_37 ?_
          refine lv_iload_n hx hb dX8_knives_38 rfl (lv_at hl 1 rfl) ?_
          refine lv_icmp_ne (tgt := 48) hx hb dX8_knives_39 (by decide) (fun c9 => ?_) (fun c9 => ?_)
          ·
            have q9 : ¬ (i 21 x18_3.toNatClampNeg).toInt = a_a.toInt := i_ne c9
            obtain ⟨x10, ex10⟩ : ∃ y : Int32, y = x18_3 + 1 := ⟨_, rfl⟩
            refine lv_iinc (v := x10) (lv' := [(3, .int x10), (0, .ref (h 0)), (1, .int a_a), (2, .int x18_2)]) hx hb dX8_knives_48 hl (k := 3) rfl (by rw [ex10]; rfl) (by decide) rfl (fun ls hl => ?_)
            obtain ⟨hx10, ax10⟩ := rg_add 1 8 ex10 h7 (rg_k (by decide) : rg 1 1 1) (by decide)
            replace ax10 : x10.toInt = x18_3.toInt + 1 := ax10
            refine lv_goto (tgt := 18) hx hb dX8_knives_51 (by decide) ?_
            exact ih5_ x18_2 x10 _ _ _ hhx18_2 (rg_w hx10 (by decide) : rg 0 8 x10) hT hS (lv_sub hl [1, 2, 3, 0] rfl) (m_up ax10 hx10 (by decide) hm5_)
          ·
            have q9 : (i 21 x18_3.toNatClampNeg).toInt = a_a.toInt := i_eq c9
            refine lv_iload_n hx hb dX8_knives_42 rfl (lv_at hl 2 rfl) ?_
            refine lv_iconst (v := 1) hx hb dX8_knives_43 (by decide) ?_
            refine lv_iload_n hx hb dX8_knives_44 rfl (lv_at hl 3 rfl) ?_
            refine q_ishl hx hb dX8_knives_45 (fun x11 ex11 => ?_)
            have h12 : rg 1 128 x11 := rg_shl1 ex11 h7 (by decide)
            refine q_ior hx hb dX8_knives_46 (fun x13 ex13 => ?_)
            have h14 : rg 0 255 x13 := rg_or8 ex13 hhx18_2 h12 (by decide)
            refine lv_istore_n (lv' := [(2, .int x13), (0, .ref (h 0)), (1, .int a_a), (3, .int x18_3)]) hx hb dX8_knives_47 rfl hl (by decide) rfl (fun ls hl => ?_)
            obtain ⟨x15, ex15⟩ : ∃ y : Int32, y = x18_3 + 1 := ⟨_, rfl⟩
            refine lv_iinc (v := x15) (lv' := [(3, .int x15), (2, .int x13), (0, .ref (h 0)), (1, .int a_a)]) hx hb dX8_knives_48 hl (k := 3) rfl (by rw [ex15]; rfl) (by decide) rfl (fun ls hl => ?_)
            obtain ⟨hx15, ax15⟩ := rg_add 1 8 ex15 h7 (rg_k (by decide) : rg 1 1 1) (by decide)
            replace ax15 : x15.toInt = x18_3.toInt + 1 := ax15
            refine lv_goto (tgt := 18) hx hb dX8_knives_51 (by decide) ?_
            exact ih5_ x13 x15 _ _ _ h14 (rg_w hx15 (by decide) : rg 0 8 x15) hT hS (lv_sub hl [2, 3, 1, 0] rfl) (m_up ax15 hx15 (by decide) hm5_)
    exact L18_4 _ (0) (0) _ _ _ (rg_w (rg_k (by decide) : rg 0 0 0) (by decide) : rg 0 255 0) (rg_w (rg_k (by decide) : rg 0 0 0) (by decide) : rg 0 8 0) hT hS (lv_sub hl [2, 3, 1, 0] rfl) (Nat.lt_succ_self _)
  ·
    obtain ⟨eh1, rfl⟩ := hq
    rw [(Prod.mk.inj eh1).1, (Prod.mk.inj eh1).2] at hT
    refine lv_if_ne (tgt := 14) hx hb dX8_knives_8 (by decide) (fun c16 => (x_ne (rg_k (by decide) : rg 0 0 0) (rg_k (by decide) : rg 0 0 0) (i_ne c16) (by decide)).elim) (fun c16 => ?_)
    refine lv_bipush (v := (-2)) hx hb dX8_knives_11 (by decide) ?_
    exact hret (-2) _ _ _ _ _ _ dX8_knives_13 hT hS ⟨rfl, (rg_w (rg_k (by decide) : rg (-2) (-2) (-2)) (by decide) : rg (-2) 255 (-2))⟩
set_option maxRecDepth 100000 in
set_option maxHeartbeats 4000000 in
theorem m_X8_idle {l : Launch} {D : va_G} {h : Nat → Nat} {cz : Nat → ClassId} {z : EZ} {i : Nat → Nat → Int32} {g : Nat → Nat → Int64} (hR : Rg rA i) : DtI l yX8_idle cX8_idle 4 (some .int) ({ frames := 7, cells := 0, slots := 0, locals := 157 } : Room) D h cz z i g [.ref (h 0)] (fun r u => Rg rA u.1 ∧ Fr [0, 65, 66, 67, 68, 69, 70] [] i g u ∧ rg (-2) 255 r) := by
  refine e_I pn_X8_idle (Nat.le_of_ble_eq_true rfl) ?_
  intro p e s m args below meth c ls Q X Y hret hT hl hS
  have hx := X.1
  have hb := X.2.1
  have hl : lv_has ls 4 [(0, .ref (h 0))] := hl
  have hF : Fr [0, 65, 66, 67, 68, 69, 70] [] i g (i, g) := Fr_rf _ _ _ _
  refine lv_aload_n hx hb dX8_idle_0 rfl (lv_at hl 0 rfl) ?_
  refine r_getr X hT 0 3 15 fk_8_32 rfl rfl (by decide) dX8_idle_1 ?_
  refine e_Vi (As := []) (rest := []) X Y hT hS (m_X6_isTold_15 hR) mk_X6_isTold gm_698 rfl rfl (by decide) hd_X6_isTold ⟨rfl, rfl⟩ ⟨Nat.le_of_ble_eq_true rfl, Nat.le_of_ble_eq_true rfl⟩ hl.1 rfl (Nat.le_of_ble_eq_true rfl) dX8_idle_4 ⟨Nat.zero_le _, Nat.zero_le _⟩ (fun r1 i1 g1 H locs hq hT hS => ?_)
  obtain ⟨eh1, hr1⟩ := hq
  rw [(Prod.mk.inj eh1).1, (Prod.mk.inj eh1).2] at hT
  refine lv_if_ne (tgt := 13) hx hb dX8_idle_7 (by decide) (fun c2 => ?_) (fun c2 => ?_)
  ·
    have q2 : ¬ r1.toInt = 0 := i_ne c2
    have h3 : rg 1 1 r1 := t_nelo 1 hr1 (rg_k (by decide) : rg 0 0 0) (i_ne c2) (by decide)
    refine lv_aload_n hx hb dX8_idle_13 rfl (lv_at hl 0 rfl) ?_
    refine e_Vi (As := []) (rest := []) X Y hT hS (m_X8_openingKnives hR) mk_X8_openingKnives gm_893 rfl rfl (by decide) hd_X8_openingKnives ⟨rfl, rfl⟩ ⟨Nat.le_of_ble_eq_true rfl, Nat.le_of_ble_eq_true rfl⟩ hl.1 rfl (Nat.le_of_ble_eq_true rfl) dX8_idle_14 ⟨Nat.zero_le _, Nat.zero_le _⟩ (fun r4 i4 g4 H locs hq hT hS => ?_)
    obtain ⟨hR4, hf4⟩ := hq
    have hF4 := Fr_tr hF hf4 (by decide)
    refine lv_istore_n (lv' := [(1, .int r4), (0, .ref (h 0))]) hx hb dX8_idle_17 rfl hl (by decide) rfl (fun ls hl => ?_)
    refine lv_iconst (v := 0) hx hb dX8_idle_18 (by decide) ?_
    refine lv_istore_n (lv' := [(2, .int 0), (1, .int r4), (0, .ref (h 0))]) hx hb dX8_idle_19 rfl hl (by decide) rfl (fun ls hl => ?_)
    refine lv_iconst (v := 0) hx hb dX8_idle_20 (by decide) ?_
    refine lv_istore_n (lv' := [(3, .int 0), (2, .int 0), (1, .int r4), (0, .ref (h 0))]) hx hb dX8_idle_21 rfl hl (by decide) rfl (fun ls hl => ?_)
    have L22_5 : ∀ (n6_ : Nat) (x22_2 : Int32) (x22_3 : Int32) (H : Heap) (locs : List Loc) (ls : Array Slot), rg 0 255 x22_2 → rg 0 8 x22_3 → TH D h cz i4 g4 H → va_S (hA h) s.heap H locs → lv_has ls 4 [(0, .ref (h 0)), (1, .int r4), (2, .int x22_2), (3, .int x22_3)] → (8 - x22_3.toInt).toNat < n6_ → W p l e ({ frames := 7, cells := 0, slots := 0, locals := 157 } : Room) s m args below meth c H locs 0 0 Q (F0 m 22 ls []) := by
      intro n6_
      induction n6_ with
      | zero => intro x22_2 x22_3 H locs ls hhx22_2 hhx22_3 hT hS hl hm6_; exact absurd hm6_ (Nat.not_lt_zero _)
      | succ n6_ ih6_ =>
        intro x22_2 x22_3 H locs ls hhx22_2 hhx22_3 hT hS hl hm6_
        refine lv_iload_n hx hb dX8_idle_22 rfl (lv_at hl 3 rfl) ?_
        refine lv_aload_n hx hb dX8_idle_23 rfl (lv_at hl 0 rfl) ?_
        refine r_getr X hT 0 3 15 fk_8_32 rfl rfl (by decide) dX8_idle_24 ?_
        refine r_geti X hT 15 15 fk_8_162 rfl rfl (by decide) dX8_idle_27 ?_
        refine lv_icmp_ge (tgt := 72) hx hb dX8_idle_30 (by decide) (fun c7 => ?_) (fun c7 => ?_)
        ·
          have q7 : (i4 15 15).toInt ≤ x22_3.toInt := i_le c7
          refine lv_iload_n hx hb dX8_idle_72 rfl (lv_at hl 2 rfl) ?_
          exact hret x22_2 _ _ _ _ _ _ dX8_idle_73 hT hS ⟨hR4, hF4, (rg_w hhx22_2 (by decide) : rg (-2) 255 x22_2)⟩
        ·
          have q7 : x22_3.toInt < (i4 15 15).toInt := i_nle c7
          have h8 : rg 0 7 x22_3 := t_ltx 0 7 hhx22_3 (Rg_at hR4 15 15 0 8 (by decide) rfl) (i_nle c7) (by decide)
          have h9 : rg 1 8 (i4 15 15) := t_lty 1 8 hhx22_3 (Rg_at hR4 15 15 0 8 (by decide) rfl) (i_nle c7) (by decide)
          refine lv_aload_n hx hb dX8_idle_33 rfl (lv_at hl 0 rfl) ?_
          refine r_getr X hT 0 3 15 fk_8_32 rfl rfl (by decide) dX8_idle_34 ?_
          refine lv_aload_n hx hb dX8_idle_37 rfl (lv_at hl 0 rfl) ?_
          refine r_getr X hT 0 3 15 fk_8_32 rfl rfl (by decide) dX8_idle_38 ?_
          refine r_getr X hT 15 6 22 fk_8_237 rfl rfl (by decide) dX8_idle_41 ?_
          refine lv_iload_n hx hb dX8_idle_44 rfl (lv_at hl 3 rfl) ?_
          refine r_iald X hT 22 rfl (by decide) (v_in h8 (by decide)) dX8_idle_45 ?_
          refine e_Vi (As := [.int (i4 22 x22_3.toNatClampNeg)]) (rest := []) X Y hT hS (m_X6_hasWorkingYear_15 hR4 (i4 22 x22_3.toNatClampNeg)) mk_X6_hasWorkingYear gm_827 rfl rfl (by decide) hd_X6_hasWorkingYear ⟨rfl, rfl⟩ ⟨Nat.le_of_ble_eq_true rfl, Nat.le_of_ble_eq_true rfl⟩ hl.1 rfl (Nat.le_of_ble_eq_true rfl) dX8_idle_46 ⟨Nat.zero_le _, Nat.zero_le _⟩ (fun r10 i10 g10 H locs hq hT hS => ?_)
          rcases hq with hq | hq
          ·
            obtain ⟨eh10, rfl, hf10_0⟩ := hq
            rw [(Prod.mk.inj eh10).1, (Prod.mk.inj eh10).2] at hT
            refine lv_if_eq (tgt := 66) hx hb dX8_idle_49 (by decide) (fun c11 => (x_eq (rg_k (by decide) : rg 1 1 1) (rg_k (by decide) : rg 0 0 0) (i_eq c11) (by decide)).elim) (fun c11 => ?_)
            refine lv_iload_n hx hb dX8_idle_52 rfl (lv_at hl 1 rfl) ?_
            refine lv_iload_n hx hb dX8_idle_53 rfl (lv_at hl 3 rfl) ?_
            refine e_Si (As := [.int r4, .int x22_3]) (rest := []) X Y hT hS (m_X8_hasBit r4 x22_3) sk_X8_hasBit gm_685 hd_X8_hasBit ⟨rfl, rfl⟩ ⟨Nat.le_of_ble_eq_true rfl, Nat.le_of_ble_eq_true rfl⟩ hl.1 rfl (Nat.le_of_ble_eq_true rfl) dX8_idle_54 ⟨Nat.zero_le _, Nat.zero_le _⟩ (fun r12 i12 g12 H locs hq hT hS => ?_)
            obtain ⟨eh12, hr12⟩ := hq
            rw [(Prod.mk.inj eh12).1, (Prod.mk.inj eh12).2] at hT
            refine lv_if_ne (tgt := 66) hx hb dX8_idle_57 (by decide) (fun c13 => ?_) (fun c13 => ?_)
            ·
              have q13 : ¬ r12.toInt = 0 := i_ne c13
              have h14 : rg 1 1 r12 := t_nelo 1 hr12 (rg_k (by decide) : rg 0 0 0) (i_ne c13) (by decide)
              obtain ⟨x15, ex15⟩ : ∃ y : Int32, y = x22_3 + 1 := ⟨_, rfl⟩
              refine lv_iinc (v := x15) (lv' := [(3, .int x15), (0, .ref (h 0)), (1, .int r4), (2, .int x22_2)]) hx hb dX8_idle_66 hl (k := 3) rfl (by rw [ex15]; rfl) (by decide) rfl (fun ls hl => ?_)
              obtain ⟨hx15, ax15⟩ := rg_add 1 8 ex15 h8 (rg_k (by decide) : rg 1 1 1) (by decide)
              replace ax15 : x15.toInt = x22_3.toInt + 1 := ax15
              refine lv_goto (tgt := 22) hx hb dX8_idle_69 (by decide) ?_
              exact ih6_ x22_2 x15 _ _ _ hhx22_2 (rg_w hx15 (by decide) : rg 0 8 x15) hT hS (lv_sub hl [1, 2, 3, 0] rfl) (m_up ax15 hx15 (by decide) hm6_)
            ·
              have q13 : r12.toInt = 0 := i_eq c13
              have h16 : rg 0 0 r12 := t_eqx 0 0 hr12 (rg_k (by decide) : rg 0 0 0) (i_eq c13) (by decide)
              refine lv_iload_n hx hb dX8_idle_60 rfl (lv_at hl 2 rfl) ?_
              refine lv_iconst (v := 1) hx hb dX8_idle_61 (by decide) ?_
              refine lv_iload_n hx hb dX8_idle_62 rfl (lv_at hl 3 rfl) ?_
              refine q_ishl hx hb dX8_idle_63 (fun x17 ex17 => ?_)
              have h18 : rg 1 128 x17 := rg_shl1 ex17 h8 (by decide)
              refine q_ior hx hb dX8_idle_64 (fun x19 ex19 => ?_)
              have h20 : rg 0 255 x19 := rg_or8 ex19 hhx22_2 h18 (by decide)
              refine lv_istore_n (lv' := [(2, .int x19), (0, .ref (h 0)), (1, .int r4), (3, .int x22_3)]) hx hb dX8_idle_65 rfl hl (by decide) rfl (fun ls hl => ?_)
              obtain ⟨x21, ex21⟩ : ∃ y : Int32, y = x22_3 + 1 := ⟨_, rfl⟩
              refine lv_iinc (v := x21) (lv' := [(3, .int x21), (2, .int x19), (0, .ref (h 0)), (1, .int r4)]) hx hb dX8_idle_66 hl (k := 3) rfl (by rw [ex21]; rfl) (by decide) rfl (fun ls hl => ?_)
              obtain ⟨hx21, ax21⟩ := rg_add 1 8 ex21 h8 (rg_k (by decide) : rg 1 1 1) (by decide)
              replace ax21 : x21.toInt = x22_3.toInt + 1 := ax21
              refine lv_goto (tgt := 22) hx hb dX8_idle_69 (by decide) ?_
              exact ih6_ x19 x21 _ _ _ h20 (rg_w hx21 (by decide) : rg 0 8 x21) hT hS (lv_sub hl [2, 3, 1, 0] rfl) (m_up ax21 hx21 (by decide) hm6_)
          ·
            obtain ⟨eh10, rfl⟩ := hq
            rw [(Prod.mk.inj eh10).1, (Prod.mk.inj eh10).2] at hT
            refine lv_if_eq (tgt := 66) hx hb dX8_idle_49 (by decide) (fun c22 => ?_) (fun c22 => (x_ne (rg_k (by decide) : rg 0 0 0) (rg_k (by decide) : rg 0 0 0) (i_ne c22) (by decide)).elim)
            obtain ⟨x23, ex23⟩ : ∃ y : Int32, y = x22_3 + 1 := ⟨_, rfl⟩
            refine lv_iinc (v := x23) (lv' := [(3, .int x23), (0, .ref (h 0)), (1, .int r4), (2, .int x22_2)]) hx hb dX8_idle_66 hl (k := 3) rfl (by rw [ex23]; rfl) (by decide) rfl (fun ls hl => ?_)
            obtain ⟨hx23, ax23⟩ := rg_add 1 8 ex23 h8 (rg_k (by decide) : rg 1 1 1) (by decide)
            replace ax23 : x23.toInt = x22_3.toInt + 1 := ax23
            refine lv_goto (tgt := 22) hx hb dX8_idle_69 (by decide) ?_
            exact ih6_ x22_2 x23 _ _ _ hhx22_2 (rg_w hx23 (by decide) : rg 0 8 x23) hT hS (lv_sub hl [1, 2, 3, 0] rfl) (m_up ax23 hx23 (by decide) hm6_)
    exact L22_5 _ (0) (0) _ _ _ (rg_w (rg_k (by decide) : rg 0 0 0) (by decide) : rg 0 255 0) (rg_w (rg_k (by decide) : rg 0 0 0) (by decide) : rg 0 8 0) hT hS (lv_sub hl [3, 2, 1, 0] rfl) (Nat.lt_succ_self _)
  ·
    have q2 : r1.toInt = 0 := i_eq c2
    have h24 : rg 0 0 r1 := t_eqx 0 0 hr1 (rg_k (by decide) : rg 0 0 0) (i_eq c2) (by decide)
    refine lv_bipush (v := (-2)) hx hb dX8_idle_10 (by decide) ?_
    exact hret (-2) _ _ _ _ _ _ dX8_idle_12 hT hS ⟨hR, hF, (rg_w (rg_k (by decide) : rg (-2) (-2) (-2)) (by decide) : rg (-2) 255 (-2))⟩
set_option maxRecDepth 100000 in
set_option maxHeartbeats 4000000 in
theorem m_J7_fill_53178_74_0 {l : Launch} {D : va_G} {h : Nat → Nat} {cz : Nat → ClassId} {z : EZ} {i : Nat → Nat → Int32} {g : Nat → Nat → Int64} (hR : Rg rA i) (a_b : Int32) (ha_b : rg 0 0 a_b) : DtV l yJ7_fill_53178 cJ7_fill_53178 4 none ({ frames := 0, cells := 0, slots := 0, locals := 0 } : Room) D h cz z i g [.ref (h 74), .int a_b] (fun u => Rg rA u.1 ∧ Fr [74] [] i g u ∧ (∀ k : Nat, k < 72 → u.1 74 k = a_b)) := by
  refine e_V pn_J7_fill_53178 (Nat.le_of_ble_eq_true rfl) ?_
  intro p e s m args below meth c ls Q X Y hret hT hl hS
  have hx := X.1
  have hb := X.2.1
  have hl : lv_has ls 4 [(0, .ref (h 74)), (1, .int a_b)] := hl
  have hF : Fr [74] [] i g (i, g) := Fr_rf _ _ _ _
  refine lv_iconst (v := 0) hx hb dJ7_fill_53178_0 (by decide) ?_
  refine lv_istore_n (lv' := [(2, .int 0), (0, .ref (h 74)), (1, .int a_b)]) hx hb dJ7_fill_53178_1 rfl hl (by decide) rfl (fun ls hl => ?_)
  refine lv_aload_n hx hb dJ7_fill_53178_2 rfl (lv_at hl 1 rfl) ?_
  refine r_alen (v := 72) X hT 74 rfl (by decide) (by decide) (by decide) dJ7_fill_53178_3 ?_
  refine lv_istore_n (lv' := [(3, .int 72), (2, .int 0), (0, .ref (h 74)), (1, .int a_b)]) hx hb dJ7_fill_53178_4 rfl hl (by decide) rfl (fun ls hl => ?_)
  have L5_1 : ∀ (n3_ : Nat) (x5_2 : Int32) (i2 : Nat → Nat → Int32) (g2 : Nat → Nat → Int64) (H : Heap) (locs : List Loc) (ls : Array Slot), rg 0 99 x5_2 → Rg rA i2 → Fr [74] [] i g (i2, g2) → (∀ k : Nat, (k : Int) < x5_2.toInt → i2 74 k = a_b) → TH D h cz i2 g2 H → va_S (hA h) s.heap H locs → lv_has ls 4 [(0, .ref (h 74)), (1, .int a_b), (2, .int x5_2), (3, .int 72)] → (99 - x5_2.toInt).toNat < n3_ → W p l e ({ frames := 0, cells := 0, slots := 0, locals := 0 } : Room) s m args below meth c H locs 0 0 Q (F0 m 5 ls []) := by
    intro n3_
    induction n3_ with
    | zero => intro x5_2 i2 g2 H locs ls hhx5_2 hR2 hF2 hfl hT hS hl hm3_; exact absurd hm3_ (Nat.not_lt_zero _)
    | succ n3_ ih3_ =>
      intro x5_2 i2 g2 H locs ls hhx5_2 hR2 hF2 hfl hT hS hl hm3_
      refine lv_iload_n hx hb dJ7_fill_53178_5 rfl (lv_at hl 2 rfl) ?_
      refine lv_iload_n hx hb dJ7_fill_53178_6 rfl (lv_at hl 3 rfl) ?_
      refine lv_icmp_ge (tgt := 20) hx hb dJ7_fill_53178_7 (by decide) (fun c4 => ?_) (fun c4 => ?_)
      ·
        have q4 : 72 ≤ x5_2.toInt := i_le c4
        have h5 : rg 72 99 x5_2 := t_ley 72 99 (rg_k (by decide) : rg 72 72 72) hhx5_2 (i_le c4) (by decide)
        exact hret _ _ _ _ _ _ dJ7_fill_53178_20 hT hS ⟨hR2, hF2, (fun k hk => hfl k (by have := q4; omega))⟩
      ·
        have q4 : x5_2.toInt < 72 := i_nle c4
        have h6 : rg 0 71 x5_2 := t_ltx 0 71 hhx5_2 (rg_k (by decide) : rg 72 72 72) (i_nle c4) (by decide)
        refine lv_aload_n hx hb dJ7_fill_53178_10 rfl (lv_at hl 0 rfl) ?_
        refine lv_iload_n hx hb dJ7_fill_53178_11 rfl (lv_at hl 2 rfl) ?_
        refine lv_iload_n hx hb dJ7_fill_53178_12 rfl (lv_at hl 1 rfl) ?_
        refine r_iast X hT hS 74 rfl (by decide) (v_in h6 (by decide)) dJ7_fill_53178_13 (fun H locs i7 ei7 hT hS => ?_)
        have hR7 := Rg_put hR2 ei7 0 20 rfl ha_b (by decide)
        have hF7 := Fr_puti hF2 ei7 (by decide)
        obtain ⟨x8, ex8⟩ : ∃ y : Int32, y = x5_2 + 1 := ⟨_, rfl⟩
        refine lv_iinc (v := x8) (lv' := [(2, .int x8), (0, .ref (h 74)), (1, .int a_b), (3, .int 72)]) hx hb dJ7_fill_53178_14 hl (k := 2) rfl (by rw [ex8]; rfl) (by decide) rfl (fun ls hl => ?_)
        obtain ⟨hx8, ax8⟩ := rg_add 1 72 ex8 h6 (rg_k (by decide) : rg 1 1 1) (by decide)
        replace ax8 : x8.toInt = x5_2.toInt + 1 := ax8
        refine lv_goto (tgt := 5) hx hb dJ7_fill_53178_17 (by decide) ?_
        exact ih3_ x8 i7 g2 _ _ _ (rg_w hx8 (by decide) : rg 0 99 x8) hR7 hF7 (fill_st hfl hhx5_2 ei7 ax8) hT hS (lv_sub hl [1, 2, 0, 3] rfl) (m_up ax8 hx8 (by decide) hm3_)
  exact L5_1 _ (0) i g _ _ _ (rg_w (rg_k (by decide) : rg 0 0 0) (by decide) : rg 0 99 0) hR hF (fun k hk => absurd hk (by have : (0 : Int32).toInt = 0 := rfl; omega)) hT hS (lv_sub hl [2, 3, 1, 0] rfl) (Nat.lt_succ_self _)
set_option maxRecDepth 100000 in
set_option maxHeartbeats 4000000 in
theorem m_X0_begin_72 {l : Launch} {D : va_G} {h : Nat → Nat} {cz : Nat → ClassId} {z : EZ} {i : Nat → Nat → Int32} {g : Nat → Nat → Int64} (hR : Rg rA i) (a_a : Int32) : DtV l yX0_begin cX0_begin 3 none ({ frames := 1, cells := 0, slots := 0, locals := 24 } : Room) D h cz z i g [.ref (h 72), .int a_a] (fun u => Rg rA u.1 ∧ Fr [72, 73, 74] [] i g u) := by
  refine e_V pn_X0_begin (Nat.le_of_ble_eq_true rfl) ?_
  intro p e s m args below meth c ls Q X Y hret hT hl hS
  have hx := X.1
  have hb := X.2.1
  have hl : lv_has ls 3 [(0, .ref (h 72)), (1, .int a_a)] := hl
  have hF : Fr [72, 73, 74] [] i g (i, g) := Fr_rf _ _ _ _
  refine lv_aload_n hx hb dX0_begin_0 rfl (lv_at hl 0 rfl) ?_
  refine lv_aload_n hx hb dX0_begin_1 rfl (lv_at hl 0 rfl) ?_
  refine r_getr X hT 72 0 15 fk_0_30 rfl rfl (by decide) dX0_begin_2 ?_
  refine r_geti X hT 15 11 fk_0_34 rfl rfl (by decide) dX0_begin_5 ?_
  refine r_puti X hT hS 72 7 pk_0_40 rfl rfl rfl rfl (by decide) dX0_begin_8 (fun H locs i1 ei1 hT hS => ?_)
  have hR1 := Rg_put hR ei1 (-2147483648) 2147483647 rfl (rg_top (i 15 11)) (by decide)
  have hF1 := Fr_puti hF ei1 (by decide)
  refine lv_aload_n hx hb dX0_begin_11 rfl (lv_at hl 0 rfl) ?_
  refine lv_iconst (v := 0) hx hb dX0_begin_12 (by decide) ?_
  refine r_puti X hT hS 72 8 pk_0_41 rfl rfl rfl rfl (by decide) dX0_begin_13 (fun H locs i2 ei2 hT hS => ?_)
  have hR2 := Rg_put hR1 ei2 (-2147483648) 2147483647 rfl (rg_k (by decide) : rg 0 0 0) (by decide)
  have hF2 := Fr_puti hF1 ei2 (by decide)
  refine lv_iconst (v := 0) hx hb dX0_begin_16 (by decide) ?_
  refine lv_istore_n (lv' := [(2, .int 0), (0, .ref (h 72)), (1, .int a_a)]) hx hb dX0_begin_17 rfl hl (by decide) rfl (fun ls hl => ?_)
  have L18_3 : ∀ (n5_ : Nat) (x18_2 : Int32) (i4 : Nat → Nat → Int32) (g4 : Nat → Nat → Int64) (H : Heap) (locs : List Loc) (ls : Array Slot), rg 0 6 x18_2 → Rg rA i4 → Fr [72, 73, 74] [] i g (i4, g4) → TH D h cz i4 g4 H → va_S (hA h) s.heap H locs → lv_has ls 3 [(0, .ref (h 72)), (1, .int a_a), (2, .int x18_2)] → (6 - x18_2.toInt).toNat < n5_ → W p l e ({ frames := 1, cells := 0, slots := 0, locals := 24 } : Room) s m args below meth c H locs 0 0 Q (F0 m 18 ls []) := by
    intro n5_
    induction n5_ with
    | zero => intro x18_2 i4 g4 H locs ls hhx18_2 hR4 hF4 hT hS hl hm5_; exact absurd hm5_ (Nat.not_lt_zero _)
    | succ n5_ ih5_ =>
      intro x18_2 i4 g4 H locs ls hhx18_2 hR4 hF4 hT hS hl hm5_
      refine lv_iload_n hx hb dX0_begin_18 rfl (lv_at hl 2 rfl) ?_
      refine lv_aload_n hx hb dX0_begin_19 rfl (lv_at hl 0 rfl) ?_
      refine r_getr X hT 72 0 15 fk_0_30 rfl rfl (by decide) dX0_begin_20 ?_
      refine r_geti X hT 15 13 fk_0_44 rfl rfl (by decide) dX0_begin_23 ?_
      refine lv_icmp_ge (tgt := 50) hx hb dX0_begin_26 (by decide) (fun c6 => ?_) (fun c6 => ?_)
      ·
        have q6 : (i4 15 13).toInt ≤ x18_2.toInt := i_le c6
        refine lv_aload_n hx hb dX0_begin_50 rfl (lv_at hl 0 rfl) ?_
        refine r_getr X hT 72 2 74 fk_0_15 rfl rfl (by decide) dX0_begin_51 ?_
        refine lv_iconst (v := 0) hx hb dX0_begin_54 (by decide) ?_
        refine e_Sv (As := [.ref (h 74), .int 0]) (rest := []) X Y hT hS (m_J7_fill_53178_74_0 hR4 (0) (rg_k (by decide) : rg 0 0 0)) sk_J7_fill_53178 gm_745 hd_J7_fill_53178 ⟨rfl, rfl⟩ ⟨Nat.le_of_ble_eq_true rfl, Nat.le_of_ble_eq_true rfl⟩ hl.1 rfl (Nat.le_of_ble_eq_true rfl) dX0_begin_55 ⟨Nat.zero_le _, Nat.zero_le _⟩ (fun i7 g7 H locs hq hT hS => ?_)
        obtain ⟨hR7, hf7, hf7_0⟩ := hq
        have hF7 := Fr_tr hF4 hf7 (by decide)
        refine lv_iconst (v := 0) hx hb dX0_begin_58 (by decide) ?_
        refine lv_istore_n (lv' := [(2, .int 0), (0, .ref (h 72)), (1, .int a_a)]) hx hb dX0_begin_59 rfl hl (by decide) rfl (fun ls hl => ?_)
        have L60_8 : ∀ (n10_ : Nat) (x60_1_2 : Int32) (i9 : Nat → Nat → Int32) (g9 : Nat → Nat → Int64) (H : Heap) (locs : List Loc) (ls : Array Slot), rg 0 20 x60_1_2 → Rg rA i9 → Fr [72, 73, 74] [] i g (i9, g9) → (∀ k : Nat, k < 72 → (i9 74 k).toInt ≤ x60_1_2.toInt) → TH D h cz i9 g9 H → va_S (hA h) s.heap H locs → lv_has ls 3 [(0, .ref (h 72)), (2, .int x60_1_2)] → (20 - x60_1_2.toInt).toNat < n10_ → W p l e ({ frames := 1, cells := 0, slots := 0, locals := 24 } : Room) s m args below meth c H locs 0 0 Q (F0 m 60 ls []) := by
          intro n10_
          induction n10_ with
          | zero => intro x60_1_2 i9 g9 H locs ls hhx60_1_2 hR9 hF9 har hT hS hl hm10_; exact absurd hm10_ (Nat.not_lt_zero _)
          | succ n10_ ih10_ =>
            intro x60_1_2 i9 g9 H locs ls hhx60_1_2 hR9 hF9 har hT hS hl hm10_
            refine lv_iload_n hx hb dX0_begin_60 rfl (lv_at hl 1 rfl) ?_
            refine lv_aload_n hx hb dX0_begin_61 rfl (lv_at hl 0 rfl) ?_
            refine r_getr X hT 72 0 15 fk_0_30 rfl rfl (by decide) dX0_begin_62 ?_
            refine r_geti X hT 15 16 fk_0_57 rfl rfl (by decide) dX0_begin_65 ?_
            refine lv_icmp_ge (tgt := 121) hx hb dX0_begin_68 (by decide) (fun c11 => ?_) (fun c11 => ?_)
            ·
              have q11 : (i9 15 16).toInt ≤ x60_1_2.toInt := i_le c11
              exact hret _ _ _ _ _ _ dX0_begin_121 hT hS ⟨hR9, hF9⟩
            ·
              have q11 : x60_1_2.toInt < (i9 15 16).toInt := i_nle c11
              have h12 : rg 0 19 x60_1_2 := t_ltx 0 19 hhx60_1_2 (Rg_at hR9 15 16 0 20 (by decide) rfl) (i_nle c11) (by decide)
              have h13 : rg 1 20 (i9 15 16) := t_lty 1 20 hhx60_1_2 (Rg_at hR9 15 16 0 20 (by decide) rfl) (i_nle c11) (by decide)
              refine lv_aload_n hx hb dX0_begin_71 rfl (lv_at hl 0 rfl) ?_
              refine r_getr X hT 72 0 15 fk_0_30 rfl rfl (by decide) dX0_begin_72 ?_
              refine r_getr X hT 15 7 23 fk_0_60 rfl rfl (by decide) dX0_begin_75 ?_
              refine lv_iload_n hx hb dX0_begin_78 rfl (lv_at hl 1 rfl) ?_
              refine r_iald X hT 23 rfl (by decide) (v_in h12 (by decide)) dX0_begin_79 ?_
              refine lv_iconst (v := 1) hx hb dX0_begin_80 (by decide) ?_
              refine lv_icmp_ne (tgt := 115) hx hb dX0_begin_81 (by decide) (fun c14 => ?_) (fun c14 => ?_)
              ·
                have q14 : ¬ (i9 23 x60_1_2.toNatClampNeg).toInt = 1 := i_ne c14
                have h15 : rg 0 0 (i9 23 x60_1_2.toNatClampNeg) := t_nehi 0 (Rg_at hR9 23 x60_1_2.toNatClampNeg 0 1 (v_lt (v_in h12 (by decide))) rfl) (rg_k (by decide) : rg 1 1 1) (i_ne c14) (by decide)
                obtain ⟨x16, ex16⟩ : ∃ y : Int32, y = x60_1_2 + 1 := ⟨_, rfl⟩
                refine lv_iinc (v := x16) (lv' := [(2, .int x16), (0, .ref (h 72))]) hx hb dX0_begin_115 hl (k := 1) rfl (by rw [ex16]; rfl) (by decide) rfl (fun ls hl => ?_)
                obtain ⟨hx16, ax16⟩ := rg_add 1 20 ex16 h12 (rg_k (by decide) : rg 1 1 1) (by decide)
                replace ax16 : x16.toInt = x60_1_2.toInt + 1 := ax16
                refine lv_goto (tgt := 60) hx hb dX0_begin_118 (by decide) ?_
                exact ih10_ x16 i9 g9 _ _ _ (rg_w hx16 (by decide) : rg 0 20 x16) hR9 hF9 (fun k hk => by have := har k hk; have := ax16; omega) hT hS (lv_sub hl [1, 0] rfl) (m_up ax16 hx16 (by decide) hm10_)
              ·
                have q14 : (i9 23 x60_1_2.toNatClampNeg).toInt = 1 := i_eq c14
                have h17 : rg 1 1 (i9 23 x60_1_2.toNatClampNeg) := t_eqx 1 1 (Rg_at hR9 23 x60_1_2.toNatClampNeg 0 1 (v_lt (v_in h12 (by decide))) rfl) (rg_k (by decide) : rg 1 1 1) (i_eq c14) (by decide)
                refine lv_aload_n hx hb dX0_begin_84 rfl (lv_at hl 0 rfl) ?_
                refine r_getr X hT 72 2 74 fk_0_15 rfl rfl (by decide) dX0_begin_85 ?_
                refine lv_aload_n hx hb dX0_begin_88 rfl (lv_at hl 0 rfl) ?_
                refine r_getr X hT 72 0 15 fk_0_30 rfl rfl (by decide) dX0_begin_89 ?_
                refine r_getr X hT 15 9 25 fk_0_63 rfl rfl (by decide) dX0_begin_92 ?_
                refine lv_iload_n hx hb dX0_begin_95 rfl (lv_at hl 1 rfl) ?_
                refine r_iald X hT 25 rfl (by decide) (v_in h12 (by decide)) dX0_begin_96 ?_
                refine lv_bipush (v := 6) hx hb dX0_begin_97 (by decide) ?_
                refine q_imul hx hb dX0_begin_99 (fun x18 ex18 => ?_)
                obtain ⟨hx18, ax18⟩ := rg_mul 0 66 ex18 (Rg_at hR9 25 x60_1_2.toNatClampNeg 0 11 (v_lt (v_in h12 (by decide))) rfl) (rg_k (by decide) : rg 6 6 6) (by decide)
                replace ax18 : x18.toInt = (i9 25 x60_1_2.toNatClampNeg).toInt * 6 := ax18
                refine lv_aload_n hx hb dX0_begin_100 rfl (lv_at hl 0 rfl) ?_
                refine r_getr X hT 72 0 15 fk_0_30 rfl rfl (by decide) dX0_begin_101 ?_
                refine r_getr X hT 15 8 24 fk_0_66 rfl rfl (by decide) dX0_begin_104 ?_
                refine lv_iload_n hx hb dX0_begin_107 rfl (lv_at hl 1 rfl) ?_
                refine r_iald X hT 24 rfl (by decide) (v_in h12 (by decide)) dX0_begin_108 ?_
                refine q_iadd hx hb dX0_begin_109 (fun x19 ex19 => ?_)
                obtain ⟨hx19, ax19⟩ := rg_add 0 71 ex19 hx18 (Rg_at hR9 24 x60_1_2.toNatClampNeg 0 5 (v_lt (v_in h12 (by decide))) rfl) (by decide)
                replace ax19 : x19.toInt = x18.toInt + (i9 24 x60_1_2.toNatClampNeg).toInt := ax19
                refine lv_dup2_11 hx hb dX0_begin_110 rfl rfl ?_
                refine r_iald X hT 74 rfl (by decide) (v_in hx19 (by decide)) dX0_begin_111 ?_
                have h20 : rg 0 19 (i9 74 x19.toNatClampNeg) := ⟨by have := (Rg_at hR9 74 x19.toNatClampNeg 0 20 (v_lt (v_in hx19 (by decide))) rfl).1; omega, by have := har x19.toNatClampNeg (v_lt (v_in hx19 (by decide) : vp_in x19 72)); have := h12.2; omega⟩
                refine lv_iconst (v := 1) hx hb dX0_begin_112 (by decide) ?_
                refine q_iadd hx hb dX0_begin_113 (fun x21 ex21 => ?_)
                obtain ⟨hx21, ax21⟩ := rg_add 1 20 ex21 h20 (rg_k (by decide) : rg 1 1 1) (by decide)
                replace ax21 : x21.toInt = (i9 74 x19.toNatClampNeg).toInt + 1 := ax21
                refine r_iast X hT hS 74 rfl (by decide) (v_in hx19 (by decide)) dX0_begin_114 (fun H locs i22 ei22 hT hS => ?_)
                have hR22 := Rg_put hR9 ei22 0 20 rfl hx21 (by decide)
                have hF22 := Fr_puti hF9 ei22 (by decide)
                obtain ⟨x23, ex23⟩ : ∃ y : Int32, y = x60_1_2 + 1 := ⟨_, rfl⟩
                refine lv_iinc (v := x23) (lv' := [(2, .int x23), (0, .ref (h 72))]) hx hb dX0_begin_115 hl (k := 1) rfl (by rw [ex23]; rfl) (by decide) rfl (fun ls hl => ?_)
                obtain ⟨hx23, ax23⟩ := rg_add 1 20 ex23 h12 (rg_k (by decide) : rg 1 1 1) (by decide)
                replace ax23 : x23.toInt = x60_1_2.toInt + 1 := ax23
                refine lv_goto (tgt := 60) hx hb dX0_begin_118 (by decide) ?_
                exact ih10_ x23 i22 g9 _ _ _ (rg_w hx23 (by decide) : rg 0 20 x23) hR22 hF22 (air_st har ei22 (by have := har x19.toNatClampNeg (v_lt (v_in hx19 (by decide) : vp_in x19 72)); have := ax21; omega) ax23) hT hS (lv_sub hl [1, 0] rfl) (m_up ax23 hx23 (by decide) hm10_)
        exact L60_8 _ (0) i7 g7 _ _ _ (rg_w (rg_k (by decide) : rg 0 0 0) (by decide) : rg 0 20 0) hR7 hF7 (fun k hk => by rw [show i7 74 k = 0 from hf7_0 k hk]; exact Int.le_refl _) hT hS (lv_sub hl [1, 0] rfl) (Nat.lt_succ_self _)
      ·
        have q6 : x18_2.toInt < (i4 15 13).toInt := i_nle c6
        have h24 : rg 0 5 x18_2 := t_ltx 0 5 hhx18_2 (Rg_at hR4 15 13 0 6 (by decide) rfl) (i_nle c6) (by decide)
        have h25 : rg 1 6 (i4 15 13) := t_lty 1 6 hhx18_2 (Rg_at hR4 15 13 0 6 (by decide) rfl) (i_nle c6) (by decide)
        refine lv_aload_n hx hb dX0_begin_29 rfl (lv_at hl 0 rfl) ?_
        refine r_getr X hT 72 1 73 fk_0_9 rfl rfl (by decide) dX0_begin_30 ?_
        refine lv_iload_n hx hb dX0_begin_33 rfl (lv_at hl 2 rfl) ?_
        refine lv_aload_n hx hb dX0_begin_34 rfl (lv_at hl 0 rfl) ?_
        refine r_getr X hT 72 0 15 fk_0_30 rfl rfl (by decide) dX0_begin_35 ?_
        refine lv_iload_n hx hb dX0_begin_38 rfl (lv_at hl 2 rfl) ?_
        refine lv_iload_n hx hb dX0_begin_39 rfl (lv_at hl 1 rfl) ?_
        refine e_Vi (As := [.int x18_2, .int a_a]) (rest := [.int x18_2, .ref (h 73)]) X Y hT hS (m_X6_neighbours_15 hR4 x18_2 a_a) mk_X6_neighbours gm_744 rfl rfl (by decide) hd_X6_neighbours ⟨rfl, rfl⟩ ⟨Nat.le_of_ble_eq_true rfl, Nat.le_of_ble_eq_true rfl⟩ hl.1 rfl (Nat.le_of_ble_eq_true rfl) dX0_begin_40 ⟨Nat.zero_le _, Nat.zero_le _⟩ (fun r26 i26 g26 H locs hq hT hS => ?_)
        obtain ⟨eh26, hr26⟩ := hq
        rw [(Prod.mk.inj eh26).1, (Prod.mk.inj eh26).2] at hT
        refine r_iast X hT hS 73 rfl (by decide) (v_in h24 (by decide)) dX0_begin_43 (fun H locs i27 ei27 hT hS => ?_)
        have hR27 := Rg_put hR4 ei27 (-2147483648) 2147483647 rfl hr26 (by decide)
        have hF27 := Fr_puti hF4 ei27 (by decide)
        obtain ⟨x28, ex28⟩ : ∃ y : Int32, y = x18_2 + 1 := ⟨_, rfl⟩
        refine lv_iinc (v := x28) (lv' := [(2, .int x28), (0, .ref (h 72)), (1, .int a_a)]) hx hb dX0_begin_44 hl (k := 2) rfl (by rw [ex28]; rfl) (by decide) rfl (fun ls hl => ?_)
        obtain ⟨hx28, ax28⟩ := rg_add 1 6 ex28 h24 (rg_k (by decide) : rg 1 1 1) (by decide)
        replace ax28 : x28.toInt = x18_2.toInt + 1 := ax28
        refine lv_goto (tgt := 18) hx hb dX0_begin_47 (by decide) ?_
        exact ih5_ x28 i27 g4 _ _ _ (rg_w hx28 (by decide) : rg 0 6 x28) hR27 hF27 hT hS (lv_sub hl [1, 2, 0] rfl) (m_up ax28 hx28 (by decide) hm5_)
  exact L18_3 _ (0) i2 g _ _ _ (rg_w (rg_k (by decide) : rg 0 0 0) (by decide) : rg 0 6 0) hR2 hF2 hT hS (lv_sub hl [1, 2, 0] rfl) (Nat.lt_succ_self _)
