set_option maxRecDepth 100000 in
set_option maxHeartbeats 4000000 in
theorem m_X6_become_15_27 {l : Launch} {D : va_G} {h : Nat → Nat} {cz : Nat → ClassId} {z : EZ} {i : Nat → Nat → Int32} {g : Nat → Nat → Int64} (hR : Rg rA i) : DtV l yX6_become cX6_become 2 none ({ frames := 1, cells := 0, slots := 0, locals := 40 } : Room) D h cz z i g [.ref (h 15), .ref (h 27)] (fun u => Rg rA u.1 ∧ Fr [15, 16, 17, 18, 19, 20, 21, 22, 23, 24, 25] [] i g u) := by
  refine e_V pn_X6_become (Nat.le_of_ble_eq_true rfl) ?_
  intro p e s m args below meth c ls Q X Y hret hT hl hS
  have hx := X.1
  have hb := X.2.1
  have hl : lv_has ls 2 [(0, .ref (h 15)), (1, .ref (h 27))] := hl
  have hF : Fr [15, 16, 17, 18, 19, 20, 21, 22, 23, 24, 25] [] i g (i, g) := Fr_rf _ _ _ _
  refine lv_aload_n hx hb dX6_become_0 rfl (lv_at hl 0 rfl) ?_
  refine lv_aload_n hx hb dX6_become_1 rfl (lv_at hl 1 rfl) ?_
  refine r_geti X hT 27 10 fk_6_42 rfl rfl (by decide) dX6_become_2 ?_
  refine r_puti X hT hS 15 10 pk_6_42 rfl rfl rfl rfl (by decide) dX6_become_5 (fun H locs i1 ei1 hT hS => ?_)
  have hR1 := Rg_put hR ei1 (-1) 12 rfl (Rg_at hR 27 10 (-1) 12 (by decide) rfl) (by decide)
  have hF1 := Fr_puti hF ei1 (by decide)
  refine lv_aload_n hx hb dX6_become_8 rfl (lv_at hl 0 rfl) ?_
  refine lv_aload_n hx hb dX6_become_9 rfl (lv_at hl 1 rfl) ?_
  refine r_geti X hT 27 11 fk_6_46 rfl rfl (by decide) dX6_become_10 ?_
  refine r_puti X hT hS 15 11 pk_6_46 rfl rfl rfl rfl (by decide) dX6_become_13 (fun H locs i2 ei2 hT hS => ?_)
  have hR2 := Rg_put hR1 ei2 (-2147483648) 2147483647 rfl (rg_top (i1 27 11)) (by decide)
  have hF2 := Fr_puti hF1 ei2 (by decide)
  refine lv_aload_n hx hb dX6_become_16 rfl (lv_at hl 0 rfl) ?_
  refine lv_aload_n hx hb dX6_become_17 rfl (lv_at hl 1 rfl) ?_
  refine r_geti X hT 27 12 fk_6_49 rfl rfl (by decide) dX6_become_18 ?_
  refine r_puti X hT hS 15 12 pk_6_49 rfl rfl rfl rfl (by decide) dX6_become_21 (fun H locs i3 ei3 hT hS => ?_)
  have hR3 := Rg_put hR2 ei3 (-2147483648) 2147483647 rfl (rg_top (i2 27 12)) (by decide)
  have hF3 := Fr_puti hF2 ei3 (by decide)
  refine lv_aload_n hx hb dX6_become_24 rfl (lv_at hl 0 rfl) ?_
  refine lv_aload_n hx hb dX6_become_25 rfl (lv_at hl 1 rfl) ?_
  refine r_geti X hT 27 13 fk_6_52 rfl rfl (by decide) dX6_become_26 ?_
  refine r_puti X hT hS 15 13 pk_6_52 rfl rfl rfl rfl (by decide) dX6_become_29 (fun H locs i4 ei4 hT hS => ?_)
  have hR4 := Rg_put hR3 ei4 0 6 rfl (Rg_at hR3 27 13 0 6 (by decide) rfl) (by decide)
  have hF4 := Fr_puti hF3 ei4 (by decide)
  refine lv_aload_n hx hb dX6_become_32 rfl (lv_at hl 0 rfl) ?_
  refine lv_aload_n hx hb dX6_become_33 rfl (lv_at hl 1 rfl) ?_
  refine r_geti X hT 27 14 fk_6_55 rfl rfl (by decide) dX6_become_34 ?_
  refine r_puti X hT hS 15 14 pk_6_55 rfl rfl rfl rfl (by decide) dX6_become_37 (fun H locs i5 ei5 hT hS => ?_)
  have hR5 := Rg_put hR4 ei5 0 10 rfl (Rg_at hR4 27 14 0 10 (by decide) rfl) (by decide)
  have hF5 := Fr_puti hF4 ei5 (by decide)
  refine lv_aload_n hx hb dX6_become_40 rfl (lv_at hl 0 rfl) ?_
  refine lv_aload_n hx hb dX6_become_41 rfl (lv_at hl 1 rfl) ?_
  refine r_geti X hT 27 15 fk_6_58 rfl rfl (by decide) dX6_become_42 ?_
  refine r_puti X hT hS 15 15 pk_6_58 rfl rfl rfl rfl (by decide) dX6_become_45 (fun H locs i6 ei6 hT hS => ?_)
  have hR6 := Rg_put hR5 ei6 0 8 rfl (Rg_at hR5 27 15 0 8 (by decide) rfl) (by decide)
  have hF6 := Fr_puti hF5 ei6 (by decide)
  refine lv_aload_n hx hb dX6_become_48 rfl (lv_at hl 0 rfl) ?_
  refine lv_aload_n hx hb dX6_become_49 rfl (lv_at hl 1 rfl) ?_
  refine r_geti X hT 27 16 fk_6_61 rfl rfl (by decide) dX6_become_50 ?_
  refine r_puti X hT hS 15 16 pk_6_61 rfl rfl rfl rfl (by decide) dX6_become_53 (fun H locs i7 ei7 hT hS => ?_)
  have hR7 := Rg_put hR6 ei7 0 20 rfl (Rg_at hR6 27 16 0 20 (by decide) rfl) (by decide)
  have hF7 := Fr_puti hF6 ei7 (by decide)
  refine lv_aload_n hx hb dX6_become_56 rfl (lv_at hl 0 rfl) ?_
  refine lv_aload_n hx hb dX6_become_57 rfl (lv_at hl 1 rfl) ?_
  refine r_geti X hT 27 17 fk_6_64 rfl rfl (by decide) dX6_become_58 ?_
  refine r_puti X hT hS 15 17 pk_6_64 rfl rfl rfl rfl (by decide) dX6_become_61 (fun H locs i8 ei8 hT hS => ?_)
  have hR8 := Rg_put hR7 ei8 (-2147483648) 2147483647 rfl (rg_top (i7 27 17)) (by decide)
  have hF8 := Fr_puti hF7 ei8 (by decide)
  refine lv_aload_n hx hb dX6_become_64 rfl (lv_at hl 1 rfl) ?_
  refine r_getr X hT 27 0 28 fk_6_9 rfl rfl (by decide) dX6_become_65 ?_
  refine lv_iconst (v := 0) hx hb dX6_become_68 (by decide) ?_
  refine lv_aload_n hx hb dX6_become_69 rfl (lv_at hl 0 rfl) ?_
  refine r_getr X hT 15 0 16 fk_6_9 rfl rfl (by decide) dX6_become_70 ?_
  refine lv_iconst (v := 0) hx hb dX6_become_73 (by decide) ?_
  refine lv_bipush (v := 6) hx hb dX6_become_74 (by decide) ?_
  refine r_copyi X hT hS hl.1 28 16 rfl rfl (by decide) (by decide) gm_654 gm_656 gm_655 gm_123 (rg_k (by decide) : rg 0 0 0) (rg_k (by decide) : rg 0 0 0) (rg_k (by decide) : rg 6 6 6) (by decide) (Nat.le_of_ble_eq_true rfl) (by decide +kernel) dX6_become_76 (fun H locs i9 ei9 hT hS => ?_)
  have hR9 := Rg_cpy hR8 ei9 0 60 0 60 (fun _ => rfl) (fun _ => rfl) (by decide) (by decide)
  have hF9 := Fr_cpy hF8 ei9 (by decide)
  refine lv_aload_n hx hb dX6_become_79 rfl (lv_at hl 1 rfl) ?_
  refine r_getr X hT 27 1 29 fk_6_15 rfl rfl (by decide) dX6_become_80 ?_
  refine lv_iconst (v := 0) hx hb dX6_become_83 (by decide) ?_
  refine lv_aload_n hx hb dX6_become_84 rfl (lv_at hl 0 rfl) ?_
  refine r_getr X hT 15 1 17 fk_6_15 rfl rfl (by decide) dX6_become_85 ?_
  refine lv_iconst (v := 0) hx hb dX6_become_88 (by decide) ?_
  refine lv_bipush (v := 6) hx hb dX6_become_89 (by decide) ?_
  refine r_copyi X hT hS hl.1 29 17 rfl rfl (by decide) (by decide) gm_654 gm_656 gm_655 gm_123 (rg_k (by decide) : rg 0 0 0) (rg_k (by decide) : rg 0 0 0) (rg_k (by decide) : rg 6 6 6) (by decide) (Nat.le_of_ble_eq_true rfl) (by decide +kernel) dX6_become_91 (fun H locs i10 ei10 hT hS => ?_)
  have hR10 := Rg_cpy hR9 ei10 0 9 0 9 (fun _ => rfl) (fun _ => rfl) (by decide) (by decide)
  have hF10 := Fr_cpy hF9 ei10 (by decide)
  refine lv_aload_n hx hb dX6_become_94 rfl (lv_at hl 1 rfl) ?_
  refine r_getr X hT 27 2 30 fk_6_18 rfl rfl (by decide) dX6_become_95 ?_
  refine lv_iconst (v := 0) hx hb dX6_become_98 (by decide) ?_
  refine lv_aload_n hx hb dX6_become_99 rfl (lv_at hl 0 rfl) ?_
  refine r_getr X hT 15 2 18 fk_6_18 rfl rfl (by decide) dX6_become_100 ?_
  refine lv_iconst (v := 0) hx hb dX6_become_103 (by decide) ?_
  refine lv_bipush (v := 6) hx hb dX6_become_104 (by decide) ?_
  refine r_copyi X hT hS hl.1 30 18 rfl rfl (by decide) (by decide) gm_654 gm_656 gm_655 gm_123 (rg_k (by decide) : rg 0 0 0) (rg_k (by decide) : rg 0 0 0) (rg_k (by decide) : rg 6 6 6) (by decide) (Nat.le_of_ble_eq_true rfl) (by decide +kernel) dX6_become_106 (fun H locs i11 ei11 hT hS => ?_)
  have hR11 := Rg_cpy hR10 ei11 0 60 0 60 (fun _ => rfl) (fun _ => rfl) (by decide) (by decide)
  have hF11 := Fr_cpy hF10 ei11 (by decide)
  refine lv_aload_n hx hb dX6_become_109 rfl (lv_at hl 1 rfl) ?_
  refine r_getr X hT 27 3 31 fk_6_21 rfl rfl (by decide) dX6_become_110 ?_
  refine lv_iconst (v := 0) hx hb dX6_become_113 (by decide) ?_
  refine lv_aload_n hx hb dX6_become_114 rfl (lv_at hl 0 rfl) ?_
  refine r_getr X hT 15 3 19 fk_6_21 rfl rfl (by decide) dX6_become_115 ?_
  refine lv_iconst (v := 0) hx hb dX6_become_118 (by decide) ?_
  refine lv_bipush (v := 10) hx hb dX6_become_119 (by decide) ?_
  refine r_copyi X hT hS hl.1 31 19 rfl rfl (by decide) (by decide) gm_654 gm_656 gm_655 gm_123 (rg_k (by decide) : rg 0 0 0) (rg_k (by decide) : rg 0 0 0) (rg_k (by decide) : rg 10 10 10) (by decide) (Nat.le_of_ble_eq_true rfl) (by decide +kernel) dX6_become_121 (fun H locs i12 ei12 hT hS => ?_)
  have hR12 := Rg_cpy hR11 ei12 0 5 0 5 (fun _ => rfl) (fun _ => rfl) (by decide) (by decide)
  have hF12 := Fr_cpy hF11 ei12 (by decide)
  refine lv_aload_n hx hb dX6_become_124 rfl (lv_at hl 1 rfl) ?_
  refine r_getr X hT 27 4 32 fk_6_24 rfl rfl (by decide) dX6_become_125 ?_
  refine lv_iconst (v := 0) hx hb dX6_become_128 (by decide) ?_
  refine lv_aload_n hx hb dX6_become_129 rfl (lv_at hl 0 rfl) ?_
  refine r_getr X hT 15 4 20 fk_6_24 rfl rfl (by decide) dX6_become_130 ?_
  refine lv_iconst (v := 0) hx hb dX6_become_133 (by decide) ?_
  refine lv_bipush (v := 10) hx hb dX6_become_134 (by decide) ?_
  refine r_copyi X hT hS hl.1 32 20 rfl rfl (by decide) (by decide) gm_654 gm_656 gm_655 gm_123 (rg_k (by decide) : rg 0 0 0) (rg_k (by decide) : rg 0 0 0) (rg_k (by decide) : rg 10 10 10) (by decide) (Nat.le_of_ble_eq_true rfl) (by decide +kernel) dX6_become_136 (fun H locs i13 ei13 hT hS => ?_)
  have hR13 := Rg_cpy hR12 ei13 0 5 0 5 (fun _ => rfl) (fun _ => rfl) (by decide) (by decide)
  have hF13 := Fr_cpy hF12 ei13 (by decide)
  refine lv_aload_n hx hb dX6_become_139 rfl (lv_at hl 1 rfl) ?_
  refine r_getr X hT 27 5 33 fk_6_27 rfl rfl (by decide) dX6_become_140 ?_
  refine lv_iconst (v := 0) hx hb dX6_become_143 (by decide) ?_
  refine lv_aload_n hx hb dX6_become_144 rfl (lv_at hl 0 rfl) ?_
  refine r_getr X hT 15 5 21 fk_6_27 rfl rfl (by decide) dX6_become_145 ?_
  refine lv_iconst (v := 0) hx hb dX6_become_148 (by decide) ?_
  refine lv_bipush (v := 8) hx hb dX6_become_149 (by decide) ?_
  refine r_copyi X hT hS hl.1 33 21 rfl rfl (by decide) (by decide) gm_654 gm_656 gm_655 gm_123 (rg_k (by decide) : rg 0 0 0) (rg_k (by decide) : rg 0 0 0) (rg_k (by decide) : rg 8 8 8) (by decide) (Nat.le_of_ble_eq_true rfl) (by decide +kernel) dX6_become_151 (fun H locs i14 ei14 hT hS => ?_)
  have hR14 := Rg_cpy hR13 ei14 0 5 0 5 (fun _ => rfl) (fun _ => rfl) (by decide) (by decide)
  have hF14 := Fr_cpy hF13 ei14 (by decide)
  refine lv_aload_n hx hb dX6_become_154 rfl (lv_at hl 1 rfl) ?_
  refine r_getr X hT 27 6 34 fk_6_30 rfl rfl (by decide) dX6_become_155 ?_
  refine lv_iconst (v := 0) hx hb dX6_become_158 (by decide) ?_
  refine lv_aload_n hx hb dX6_become_159 rfl (lv_at hl 0 rfl) ?_
  refine r_getr X hT 15 6 22 fk_6_30 rfl rfl (by decide) dX6_become_160 ?_
  refine lv_iconst (v := 0) hx hb dX6_become_163 (by decide) ?_
  refine lv_bipush (v := 8) hx hb dX6_become_164 (by decide) ?_
  refine r_copyi X hT hS hl.1 34 22 rfl rfl (by decide) (by decide) gm_654 gm_656 gm_655 gm_123 (rg_k (by decide) : rg 0 0 0) (rg_k (by decide) : rg 0 0 0) (rg_k (by decide) : rg 8 8 8) (by decide) (Nat.le_of_ble_eq_true rfl) (by decide +kernel) dX6_become_166 (fun H locs i15 ei15 hT hS => ?_)
  have hR15 := Rg_cpy hR14 ei15 0 11 0 11 (fun _ => rfl) (fun _ => rfl) (by decide) (by decide)
  have hF15 := Fr_cpy hF14 ei15 (by decide)
  refine lv_aload_n hx hb dX6_become_169 rfl (lv_at hl 1 rfl) ?_
  refine r_getr X hT 27 7 35 fk_6_33 rfl rfl (by decide) dX6_become_170 ?_
  refine lv_iconst (v := 0) hx hb dX6_become_173 (by decide) ?_
  refine lv_aload_n hx hb dX6_become_174 rfl (lv_at hl 0 rfl) ?_
  refine r_getr X hT 15 7 23 fk_6_33 rfl rfl (by decide) dX6_become_175 ?_
  refine lv_iconst (v := 0) hx hb dX6_become_178 (by decide) ?_
  refine lv_bipush (v := 20) hx hb dX6_become_179 (by decide) ?_
  refine r_copyi X hT hS hl.1 35 23 rfl rfl (by decide) (by decide) gm_654 gm_656 gm_655 gm_123 (rg_k (by decide) : rg 0 0 0) (rg_k (by decide) : rg 0 0 0) (rg_k (by decide) : rg 20 20 20) (by decide) (Nat.le_of_ble_eq_true rfl) (by decide +kernel) dX6_become_181 (fun H locs i16 ei16 hT hS => ?_)
  have hR16 := Rg_cpy hR15 ei16 0 1 0 1 (fun _ => rfl) (fun _ => rfl) (by decide) (by decide)
  have hF16 := Fr_cpy hF15 ei16 (by decide)
  refine lv_aload_n hx hb dX6_become_184 rfl (lv_at hl 1 rfl) ?_
  refine r_getr X hT 27 8 36 fk_6_36 rfl rfl (by decide) dX6_become_185 ?_
  refine lv_iconst (v := 0) hx hb dX6_become_188 (by decide) ?_
  refine lv_aload_n hx hb dX6_become_189 rfl (lv_at hl 0 rfl) ?_
  refine r_getr X hT 15 8 24 fk_6_36 rfl rfl (by decide) dX6_become_190 ?_
  refine lv_iconst (v := 0) hx hb dX6_become_193 (by decide) ?_
  refine lv_bipush (v := 20) hx hb dX6_become_194 (by decide) ?_
  refine r_copyi X hT hS hl.1 36 24 rfl rfl (by decide) (by decide) gm_654 gm_656 gm_655 gm_123 (rg_k (by decide) : rg 0 0 0) (rg_k (by decide) : rg 0 0 0) (rg_k (by decide) : rg 20 20 20) (by decide) (Nat.le_of_ble_eq_true rfl) (by decide +kernel) dX6_become_196 (fun H locs i17 ei17 hT hS => ?_)
  have hR17 := Rg_cpy hR16 ei17 0 5 0 5 (fun _ => rfl) (fun _ => rfl) (by decide) (by decide)
  have hF17 := Fr_cpy hF16 ei17 (by decide)
  refine lv_aload_n hx hb dX6_become_199 rfl (lv_at hl 1 rfl) ?_
  refine r_getr X hT 27 9 37 fk_6_39 rfl rfl (by decide) dX6_become_200 ?_
  refine lv_iconst (v := 0) hx hb dX6_become_203 (by decide) ?_
  refine lv_aload_n hx hb dX6_become_204 rfl (lv_at hl 0 rfl) ?_
  refine r_getr X hT 15 9 25 fk_6_39 rfl rfl (by decide) dX6_become_205 ?_
  refine lv_iconst (v := 0) hx hb dX6_become_208 (by decide) ?_
  refine lv_bipush (v := 20) hx hb dX6_become_209 (by decide) ?_
  refine r_copyi X hT hS hl.1 37 25 rfl rfl (by decide) (by decide) gm_654 gm_656 gm_655 gm_123 (rg_k (by decide) : rg 0 0 0) (rg_k (by decide) : rg 0 0 0) (rg_k (by decide) : rg 20 20 20) (by decide) (Nat.le_of_ble_eq_true rfl) (by decide +kernel) dX6_become_211 (fun H locs i18 ei18 hT hS => ?_)
  have hR18 := Rg_cpy hR17 ei18 0 11 0 11 (fun _ => rfl) (fun _ => rfl) (by decide) (by decide)
  have hF18 := Fr_cpy hF17 ei18 (by decide)
  exact hret _ _ _ _ _ _ dX6_become_214 hT hS ⟨hR18, hF18⟩
set_option maxRecDepth 100000 in
set_option maxHeartbeats 4000000 in
theorem m_X6_become_15_38 {l : Launch} {D : va_G} {h : Nat → Nat} {cz : Nat → ClassId} {z : EZ} {i : Nat → Nat → Int32} {g : Nat → Nat → Int64} (hR : Rg rA i) : DtV l yX6_become cX6_become 2 none ({ frames := 1, cells := 0, slots := 0, locals := 40 } : Room) D h cz z i g [.ref (h 15), .ref (h 38)] (fun u => Rg rA u.1 ∧ Fr [15, 16, 17, 18, 19, 20, 21, 22, 23, 24, 25] [] i g u) := by
  refine e_V pn_X6_become (Nat.le_of_ble_eq_true rfl) ?_
  intro p e s m args below meth c ls Q X Y hret hT hl hS
  have hx := X.1
  have hb := X.2.1
  have hl : lv_has ls 2 [(0, .ref (h 15)), (1, .ref (h 38))] := hl
  have hF : Fr [15, 16, 17, 18, 19, 20, 21, 22, 23, 24, 25] [] i g (i, g) := Fr_rf _ _ _ _
  refine lv_aload_n hx hb dX6_become_0 rfl (lv_at hl 0 rfl) ?_
  refine lv_aload_n hx hb dX6_become_1 rfl (lv_at hl 1 rfl) ?_
  refine r_geti X hT 38 10 fk_6_42 rfl rfl (by decide) dX6_become_2 ?_
  refine r_puti X hT hS 15 10 pk_6_42 rfl rfl rfl rfl (by decide) dX6_become_5 (fun H locs i1 ei1 hT hS => ?_)
  have hR1 := Rg_put hR ei1 (-1) 12 rfl (Rg_at hR 38 10 (-1) 12 (by decide) rfl) (by decide)
  have hF1 := Fr_puti hF ei1 (by decide)
  refine lv_aload_n hx hb dX6_become_8 rfl (lv_at hl 0 rfl) ?_
  refine lv_aload_n hx hb dX6_become_9 rfl (lv_at hl 1 rfl) ?_
  refine r_geti X hT 38 11 fk_6_46 rfl rfl (by decide) dX6_become_10 ?_
  refine r_puti X hT hS 15 11 pk_6_46 rfl rfl rfl rfl (by decide) dX6_become_13 (fun H locs i2 ei2 hT hS => ?_)
  have hR2 := Rg_put hR1 ei2 (-2147483648) 2147483647 rfl (rg_top (i1 38 11)) (by decide)
  have hF2 := Fr_puti hF1 ei2 (by decide)
  refine lv_aload_n hx hb dX6_become_16 rfl (lv_at hl 0 rfl) ?_
  refine lv_aload_n hx hb dX6_become_17 rfl (lv_at hl 1 rfl) ?_
  refine r_geti X hT 38 12 fk_6_49 rfl rfl (by decide) dX6_become_18 ?_
  refine r_puti X hT hS 15 12 pk_6_49 rfl rfl rfl rfl (by decide) dX6_become_21 (fun H locs i3 ei3 hT hS => ?_)
  have hR3 := Rg_put hR2 ei3 (-2147483648) 2147483647 rfl (rg_top (i2 38 12)) (by decide)
  have hF3 := Fr_puti hF2 ei3 (by decide)
  refine lv_aload_n hx hb dX6_become_24 rfl (lv_at hl 0 rfl) ?_
  refine lv_aload_n hx hb dX6_become_25 rfl (lv_at hl 1 rfl) ?_
  refine r_geti X hT 38 13 fk_6_52 rfl rfl (by decide) dX6_become_26 ?_
  refine r_puti X hT hS 15 13 pk_6_52 rfl rfl rfl rfl (by decide) dX6_become_29 (fun H locs i4 ei4 hT hS => ?_)
  have hR4 := Rg_put hR3 ei4 0 6 rfl (Rg_at hR3 38 13 0 6 (by decide) rfl) (by decide)
  have hF4 := Fr_puti hF3 ei4 (by decide)
  refine lv_aload_n hx hb dX6_become_32 rfl (lv_at hl 0 rfl) ?_
  refine lv_aload_n hx hb dX6_become_33 rfl (lv_at hl 1 rfl) ?_
  refine r_geti X hT 38 14 fk_6_55 rfl rfl (by decide) dX6_become_34 ?_
  refine r_puti X hT hS 15 14 pk_6_55 rfl rfl rfl rfl (by decide) dX6_become_37 (fun H locs i5 ei5 hT hS => ?_)
  have hR5 := Rg_put hR4 ei5 0 10 rfl (Rg_at hR4 38 14 0 10 (by decide) rfl) (by decide)
  have hF5 := Fr_puti hF4 ei5 (by decide)
  refine lv_aload_n hx hb dX6_become_40 rfl (lv_at hl 0 rfl) ?_
  refine lv_aload_n hx hb dX6_become_41 rfl (lv_at hl 1 rfl) ?_
  refine r_geti X hT 38 15 fk_6_58 rfl rfl (by decide) dX6_become_42 ?_
  refine r_puti X hT hS 15 15 pk_6_58 rfl rfl rfl rfl (by decide) dX6_become_45 (fun H locs i6 ei6 hT hS => ?_)
  have hR6 := Rg_put hR5 ei6 0 8 rfl (Rg_at hR5 38 15 0 8 (by decide) rfl) (by decide)
  have hF6 := Fr_puti hF5 ei6 (by decide)
  refine lv_aload_n hx hb dX6_become_48 rfl (lv_at hl 0 rfl) ?_
  refine lv_aload_n hx hb dX6_become_49 rfl (lv_at hl 1 rfl) ?_
  refine r_geti X hT 38 16 fk_6_61 rfl rfl (by decide) dX6_become_50 ?_
  refine r_puti X hT hS 15 16 pk_6_61 rfl rfl rfl rfl (by decide) dX6_become_53 (fun H locs i7 ei7 hT hS => ?_)
  have hR7 := Rg_put hR6 ei7 0 20 rfl (Rg_at hR6 38 16 0 20 (by decide) rfl) (by decide)
  have hF7 := Fr_puti hF6 ei7 (by decide)
  refine lv_aload_n hx hb dX6_become_56 rfl (lv_at hl 0 rfl) ?_
  refine lv_aload_n hx hb dX6_become_57 rfl (lv_at hl 1 rfl) ?_
  refine r_geti X hT 38 17 fk_6_64 rfl rfl (by decide) dX6_become_58 ?_
  refine r_puti X hT hS 15 17 pk_6_64 rfl rfl rfl rfl (by decide) dX6_become_61 (fun H locs i8 ei8 hT hS => ?_)
  have hR8 := Rg_put hR7 ei8 (-2147483648) 2147483647 rfl (rg_top (i7 38 17)) (by decide)
  have hF8 := Fr_puti hF7 ei8 (by decide)
  refine lv_aload_n hx hb dX6_become_64 rfl (lv_at hl 1 rfl) ?_
  refine r_getr X hT 38 0 39 fk_6_9 rfl rfl (by decide) dX6_become_65 ?_
  refine lv_iconst (v := 0) hx hb dX6_become_68 (by decide) ?_
  refine lv_aload_n hx hb dX6_become_69 rfl (lv_at hl 0 rfl) ?_
  refine r_getr X hT 15 0 16 fk_6_9 rfl rfl (by decide) dX6_become_70 ?_
  refine lv_iconst (v := 0) hx hb dX6_become_73 (by decide) ?_
  refine lv_bipush (v := 6) hx hb dX6_become_74 (by decide) ?_
  refine r_copyi X hT hS hl.1 39 16 rfl rfl (by decide) (by decide) gm_654 gm_656 gm_655 gm_123 (rg_k (by decide) : rg 0 0 0) (rg_k (by decide) : rg 0 0 0) (rg_k (by decide) : rg 6 6 6) (by decide) (Nat.le_of_ble_eq_true rfl) (by decide +kernel) dX6_become_76 (fun H locs i9 ei9 hT hS => ?_)
  have hR9 := Rg_cpy hR8 ei9 0 60 0 60 (fun _ => rfl) (fun _ => rfl) (by decide) (by decide)
  have hF9 := Fr_cpy hF8 ei9 (by decide)
  refine lv_aload_n hx hb dX6_become_79 rfl (lv_at hl 1 rfl) ?_
  refine r_getr X hT 38 1 40 fk_6_15 rfl rfl (by decide) dX6_become_80 ?_
  refine lv_iconst (v := 0) hx hb dX6_become_83 (by decide) ?_
  refine lv_aload_n hx hb dX6_become_84 rfl (lv_at hl 0 rfl) ?_
  refine r_getr X hT 15 1 17 fk_6_15 rfl rfl (by decide) dX6_become_85 ?_
  refine lv_iconst (v := 0) hx hb dX6_become_88 (by decide) ?_
  refine lv_bipush (v := 6) hx hb dX6_become_89 (by decide) ?_
  refine r_copyi X hT hS hl.1 40 17 rfl rfl (by decide) (by decide) gm_654 gm_656 gm_655 gm_123 (rg_k (by decide) : rg 0 0 0) (rg_k (by decide) : rg 0 0 0) (rg_k (by decide) : rg 6 6 6) (by decide) (Nat.le_of_ble_eq_true rfl) (by decide +kernel) dX6_become_91 (fun H locs i10 ei10 hT hS => ?_)
  have hR10 := Rg_cpy hR9 ei10 0 9 0 9 (fun _ => rfl) (fun _ => rfl) (by decide) (by decide)
  have hF10 := Fr_cpy hF9 ei10 (by decide)
  refine lv_aload_n hx hb dX6_become_94 rfl (lv_at hl 1 rfl) ?_
  refine r_getr X hT 38 2 41 fk_6_18 rfl rfl (by decide) dX6_become_95 ?_
  refine lv_iconst (v := 0) hx hb dX6_become_98 (by decide) ?_
  refine lv_aload_n hx hb dX6_become_99 rfl (lv_at hl 0 rfl) ?_
  refine r_getr X hT 15 2 18 fk_6_18 rfl rfl (by decide) dX6_become_100 ?_
  refine lv_iconst (v := 0) hx hb dX6_become_103 (by decide) ?_
  refine lv_bipush (v := 6) hx hb dX6_become_104 (by decide) ?_
  refine r_copyi X hT hS hl.1 41 18 rfl rfl (by decide) (by decide) gm_654 gm_656 gm_655 gm_123 (rg_k (by decide) : rg 0 0 0) (rg_k (by decide) : rg 0 0 0) (rg_k (by decide) : rg 6 6 6) (by decide) (Nat.le_of_ble_eq_true rfl) (by decide +kernel) dX6_become_106 (fun H locs i11 ei11 hT hS => ?_)
  have hR11 := Rg_cpy hR10 ei11 0 60 0 60 (fun _ => rfl) (fun _ => rfl) (by decide) (by decide)
  have hF11 := Fr_cpy hF10 ei11 (by decide)
  refine lv_aload_n hx hb dX6_become_109 rfl (lv_at hl 1 rfl) ?_
  refine r_getr X hT 38 3 42 fk_6_21 rfl rfl (by decide) dX6_become_110 ?_
  refine lv_iconst (v := 0) hx hb dX6_become_113 (by decide) ?_
  refine lv_aload_n hx hb dX6_become_114 rfl (lv_at hl 0 rfl) ?_
  refine r_getr X hT 15 3 19 fk_6_21 rfl rfl (by decide) dX6_become_115 ?_
  refine lv_iconst (v := 0) hx hb dX6_become_118 (by decide) ?_
  refine lv_bipush (v := 10) hx hb dX6_become_119 (by decide) ?_
  refine r_copyi X hT hS hl.1 42 19 rfl rfl (by decide) (by decide) gm_654 gm_656 gm_655 gm_123 (rg_k (by decide) : rg 0 0 0) (rg_k (by decide) : rg 0 0 0) (rg_k (by decide) : rg 10 10 10) (by decide) (Nat.le_of_ble_eq_true rfl) (by decide +kernel) dX6_become_121 (fun H locs i12 ei12 hT hS => ?_)
  have hR12 := Rg_cpy hR11 ei12 0 5 0 5 (fun _ => rfl) (fun _ => rfl) (by decide) (by decide)
  have hF12 := Fr_cpy hF11 ei12 (by decide)
  refine lv_aload_n hx hb dX6_become_124 rfl (lv_at hl 1 rfl) ?_
  refine r_getr X hT 38 4 43 fk_6_24 rfl rfl (by decide) dX6_become_125 ?_
  refine lv_iconst (v := 0) hx hb dX6_become_128 (by decide) ?_
  refine lv_aload_n hx hb dX6_become_129 rfl (lv_at hl 0 rfl) ?_
  refine r_getr X hT 15 4 20 fk_6_24 rfl rfl (by decide) dX6_become_130 ?_
  refine lv_iconst (v := 0) hx hb dX6_become_133 (by decide) ?_
  refine lv_bipush (v := 10) hx hb dX6_become_134 (by decide) ?_
  refine r_copyi X hT hS hl.1 43 20 rfl rfl (by decide) (by decide) gm_654 gm_656 gm_655 gm_123 (rg_k (by decide) : rg 0 0 0) (rg_k (by decide) : rg 0 0 0) (rg_k (by decide) : rg 10 10 10) (by decide) (Nat.le_of_ble_eq_true rfl) (by decide +kernel) dX6_become_136 (fun H locs i13 ei13 hT hS => ?_)
  have hR13 := Rg_cpy hR12 ei13 0 5 0 5 (fun _ => rfl) (fun _ => rfl) (by decide) (by decide)
  have hF13 := Fr_cpy hF12 ei13 (by decide)
  refine lv_aload_n hx hb dX6_become_139 rfl (lv_at hl 1 rfl) ?_
  refine r_getr X hT 38 5 44 fk_6_27 rfl rfl (by decide) dX6_become_140 ?_
  refine lv_iconst (v := 0) hx hb dX6_become_143 (by decide) ?_
  refine lv_aload_n hx hb dX6_become_144 rfl (lv_at hl 0 rfl) ?_
  refine r_getr X hT 15 5 21 fk_6_27 rfl rfl (by decide) dX6_become_145 ?_
  refine lv_iconst (v := 0) hx hb dX6_become_148 (by decide) ?_
  refine lv_bipush (v := 8) hx hb dX6_become_149 (by decide) ?_
  refine r_copyi X hT hS hl.1 44 21 rfl rfl (by decide) (by decide) gm_654 gm_656 gm_655 gm_123 (rg_k (by decide) : rg 0 0 0) (rg_k (by decide) : rg 0 0 0) (rg_k (by decide) : rg 8 8 8) (by decide) (Nat.le_of_ble_eq_true rfl) (by decide +kernel) dX6_become_151 (fun H locs i14 ei14 hT hS => ?_)
  have hR14 := Rg_cpy hR13 ei14 0 5 0 5 (fun _ => rfl) (fun _ => rfl) (by decide) (by decide)
  have hF14 := Fr_cpy hF13 ei14 (by decide)
  refine lv_aload_n hx hb dX6_become_154 rfl (lv_at hl 1 rfl) ?_
  refine r_getr X hT 38 6 45 fk_6_30 rfl rfl (by decide) dX6_become_155 ?_
  refine lv_iconst (v := 0) hx hb dX6_become_158 (by decide) ?_
  refine lv_aload_n hx hb dX6_become_159 rfl (lv_at hl 0 rfl) ?_
  refine r_getr X hT 15 6 22 fk_6_30 rfl rfl (by decide) dX6_become_160 ?_
  refine lv_iconst (v := 0) hx hb dX6_become_163 (by decide) ?_
  refine lv_bipush (v := 8) hx hb dX6_become_164 (by decide) ?_
  refine r_copyi X hT hS hl.1 45 22 rfl rfl (by decide) (by decide) gm_654 gm_656 gm_655 gm_123 (rg_k (by decide) : rg 0 0 0) (rg_k (by decide) : rg 0 0 0) (rg_k (by decide) : rg 8 8 8) (by decide) (Nat.le_of_ble_eq_true rfl) (by decide +kernel) dX6_become_166 (fun H locs i15 ei15 hT hS => ?_)
  have hR15 := Rg_cpy hR14 ei15 0 11 0 11 (fun _ => rfl) (fun _ => rfl) (by decide) (by decide)
  have hF15 := Fr_cpy hF14 ei15 (by decide)
  refine lv_aload_n hx hb dX6_become_169 rfl (lv_at hl 1 rfl) ?_
  refine r_getr X hT 38 7 46 fk_6_33 rfl rfl (by decide) dX6_become_170 ?_
  refine lv_iconst (v := 0) hx hb dX6_become_173 (by decide) ?_
  refine lv_aload_n hx hb dX6_become_174 rfl (lv_at hl 0 rfl) ?_
  refine r_getr X hT 15 7 23 fk_6_33 rfl rfl (by decide) dX6_become_175 ?_
  refine lv_iconst (v := 0) hx hb dX6_become_178 (by decide) ?_
  refine lv_bipush (v := 20) hx hb dX6_become_179 (by decide) ?_
  refine r_copyi X hT hS hl.1 46 23 rfl rfl (by decide) (by decide) gm_654 gm_656 gm_655 gm_123 (rg_k (by decide) : rg 0 0 0) (rg_k (by decide) : rg 0 0 0) (rg_k (by decide) : rg 20 20 20) (by decide) (Nat.le_of_ble_eq_true rfl) (by decide +kernel) dX6_become_181 (fun H locs i16 ei16 hT hS => ?_)
  have hR16 := Rg_cpy hR15 ei16 0 1 0 1 (fun _ => rfl) (fun _ => rfl) (by decide) (by decide)
  have hF16 := Fr_cpy hF15 ei16 (by decide)
  refine lv_aload_n hx hb dX6_become_184 rfl (lv_at hl 1 rfl) ?_
  refine r_getr X hT 38 8 47 fk_6_36 rfl rfl (by decide) dX6_become_185 ?_
  refine lv_iconst (v := 0) hx hb dX6_become_188 (by decide) ?_
  refine lv_aload_n hx hb dX6_become_189 rfl (lv_at hl 0 rfl) ?_
  refine r_getr X hT 15 8 24 fk_6_36 rfl rfl (by decide) dX6_become_190 ?_
  refine lv_iconst (v := 0) hx hb dX6_become_193 (by decide) ?_
  refine lv_bipush (v := 20) hx hb dX6_become_194 (by decide) ?_
  refine r_copyi X hT hS hl.1 47 24 rfl rfl (by decide) (by decide) gm_654 gm_656 gm_655 gm_123 (rg_k (by decide) : rg 0 0 0) (rg_k (by decide) : rg 0 0 0) (rg_k (by decide) : rg 20 20 20) (by decide) (Nat.le_of_ble_eq_true rfl) (by decide +kernel) dX6_become_196 (fun H locs i17 ei17 hT hS => ?_)
  have hR17 := Rg_cpy hR16 ei17 0 5 0 5 (fun _ => rfl) (fun _ => rfl) (by decide) (by decide)
  have hF17 := Fr_cpy hF16 ei17 (by decide)
  refine lv_aload_n hx hb dX6_become_199 rfl (lv_at hl 1 rfl) ?_
  refine r_getr X hT 38 9 48 fk_6_39 rfl rfl (by decide) dX6_become_200 ?_
  refine lv_iconst (v := 0) hx hb dX6_become_203 (by decide) ?_
  refine lv_aload_n hx hb dX6_become_204 rfl (lv_at hl 0 rfl) ?_
  refine r_getr X hT 15 9 25 fk_6_39 rfl rfl (by decide) dX6_become_205 ?_
  refine lv_iconst (v := 0) hx hb dX6_become_208 (by decide) ?_
  refine lv_bipush (v := 20) hx hb dX6_become_209 (by decide) ?_
  refine r_copyi X hT hS hl.1 48 25 rfl rfl (by decide) (by decide) gm_654 gm_656 gm_655 gm_123 (rg_k (by decide) : rg 0 0 0) (rg_k (by decide) : rg 0 0 0) (rg_k (by decide) : rg 20 20 20) (by decide) (Nat.le_of_ble_eq_true rfl) (by decide +kernel) dX6_become_211 (fun H locs i18 ei18 hT hS => ?_)
  have hR18 := Rg_cpy hR17 ei18 0 11 0 11 (fun _ => rfl) (fun _ => rfl) (by decide) (by decide)
  have hF18 := Fr_cpy hF17 ei18 (by decide)
  exact hret _ _ _ _ _ _ dX6_become_214 hT hS ⟨hR18, hF18⟩
set_option maxRecDepth 100000 in
set_option maxHeartbeats 4000000 in
theorem m_X6_become_15_49 {l : Launch} {D : va_G} {h : Nat → Nat} {cz : Nat → ClassId} {z : EZ} {i : Nat → Nat → Int32} {g : Nat → Nat → Int64} (hR : Rg rA i) : DtV l yX6_become cX6_become 2 none ({ frames := 1, cells := 0, slots := 0, locals := 40 } : Room) D h cz z i g [.ref (h 15), .ref (h 49)] (fun u => Rg rA u.1 ∧ Fr [15, 16, 17, 18, 19, 20, 21, 22, 23, 24, 25] [] i g u) := by
  refine e_V pn_X6_become (Nat.le_of_ble_eq_true rfl) ?_
  intro p e s m args below meth c ls Q X Y hret hT hl hS
  have hx := X.1
  have hb := X.2.1
  have hl : lv_has ls 2 [(0, .ref (h 15)), (1, .ref (h 49))] := hl
  have hF : Fr [15, 16, 17, 18, 19, 20, 21, 22, 23, 24, 25] [] i g (i, g) := Fr_rf _ _ _ _
  refine lv_aload_n hx hb dX6_become_0 rfl (lv_at hl 0 rfl) ?_
  refine lv_aload_n hx hb dX6_become_1 rfl (lv_at hl 1 rfl) ?_
  refine r_geti X hT 49 10 fk_6_42 rfl rfl (by decide) dX6_become_2 ?_
  refine r_puti X hT hS 15 10 pk_6_42 rfl rfl rfl rfl (by decide) dX6_become_5 (fun H locs i1 ei1 hT hS => ?_)
  have hR1 := Rg_put hR ei1 (-1) 12 rfl (Rg_at hR 49 10 (-1) 12 (by decide) rfl) (by decide)
  have hF1 := Fr_puti hF ei1 (by decide)
  refine lv_aload_n hx hb dX6_become_8 rfl (lv_at hl 0 rfl) ?_
  refine lv_aload_n hx hb dX6_become_9 rfl (lv_at hl 1 rfl) ?_
  refine r_geti X hT 49 11 fk_6_46 rfl rfl (by decide) dX6_become_10 ?_
  refine r_puti X hT hS 15 11 pk_6_46 rfl rfl rfl rfl (by decide) dX6_become_13 (fun H locs i2 ei2 hT hS => ?_)
  have hR2 := Rg_put hR1 ei2 (-2147483648) 2147483647 rfl (rg_top (i1 49 11)) (by decide)
  have hF2 := Fr_puti hF1 ei2 (by decide)
  refine lv_aload_n hx hb dX6_become_16 rfl (lv_at hl 0 rfl) ?_
  refine lv_aload_n hx hb dX6_become_17 rfl (lv_at hl 1 rfl) ?_
  refine r_geti X hT 49 12 fk_6_49 rfl rfl (by decide) dX6_become_18 ?_
  refine r_puti X hT hS 15 12 pk_6_49 rfl rfl rfl rfl (by decide) dX6_become_21 (fun H locs i3 ei3 hT hS => ?_)
  have hR3 := Rg_put hR2 ei3 (-2147483648) 2147483647 rfl (rg_top (i2 49 12)) (by decide)
  have hF3 := Fr_puti hF2 ei3 (by decide)
  refine lv_aload_n hx hb dX6_become_24 rfl (lv_at hl 0 rfl) ?_
  refine lv_aload_n hx hb dX6_become_25 rfl (lv_at hl 1 rfl) ?_
  refine r_geti X hT 49 13 fk_6_52 rfl rfl (by decide) dX6_become_26 ?_
  refine r_puti X hT hS 15 13 pk_6_52 rfl rfl rfl rfl (by decide) dX6_become_29 (fun H locs i4 ei4 hT hS => ?_)
  have hR4 := Rg_put hR3 ei4 0 6 rfl (Rg_at hR3 49 13 0 6 (by decide) rfl) (by decide)
  have hF4 := Fr_puti hF3 ei4 (by decide)
  refine lv_aload_n hx hb dX6_become_32 rfl (lv_at hl 0 rfl) ?_
  refine lv_aload_n hx hb dX6_become_33 rfl (lv_at hl 1 rfl) ?_
  refine r_geti X hT 49 14 fk_6_55 rfl rfl (by decide) dX6_become_34 ?_
  refine r_puti X hT hS 15 14 pk_6_55 rfl rfl rfl rfl (by decide) dX6_become_37 (fun H locs i5 ei5 hT hS => ?_)
  have hR5 := Rg_put hR4 ei5 0 10 rfl (Rg_at hR4 49 14 0 10 (by decide) rfl) (by decide)
  have hF5 := Fr_puti hF4 ei5 (by decide)
  refine lv_aload_n hx hb dX6_become_40 rfl (lv_at hl 0 rfl) ?_
  refine lv_aload_n hx hb dX6_become_41 rfl (lv_at hl 1 rfl) ?_
  refine r_geti X hT 49 15 fk_6_58 rfl rfl (by decide) dX6_become_42 ?_
  refine r_puti X hT hS 15 15 pk_6_58 rfl rfl rfl rfl (by decide) dX6_become_45 (fun H locs i6 ei6 hT hS => ?_)
  have hR6 := Rg_put hR5 ei6 0 8 rfl (Rg_at hR5 49 15 0 8 (by decide) rfl) (by decide)
  have hF6 := Fr_puti hF5 ei6 (by decide)
  refine lv_aload_n hx hb dX6_become_48 rfl (lv_at hl 0 rfl) ?_
  refine lv_aload_n hx hb dX6_become_49 rfl (lv_at hl 1 rfl) ?_
  refine r_geti X hT 49 16 fk_6_61 rfl rfl (by decide) dX6_become_50 ?_
  refine r_puti X hT hS 15 16 pk_6_61 rfl rfl rfl rfl (by decide) dX6_become_53 (fun H locs i7 ei7 hT hS => ?_)
  have hR7 := Rg_put hR6 ei7 0 20 rfl (Rg_at hR6 49 16 0 20 (by decide) rfl) (by decide)
  have hF7 := Fr_puti hF6 ei7 (by decide)
  refine lv_aload_n hx hb dX6_become_56 rfl (lv_at hl 0 rfl) ?_
  refine lv_aload_n hx hb dX6_become_57 rfl (lv_at hl 1 rfl) ?_
  refine r_geti X hT 49 17 fk_6_64 rfl rfl (by decide) dX6_become_58 ?_
  refine r_puti X hT hS 15 17 pk_6_64 rfl rfl rfl rfl (by decide) dX6_become_61 (fun H locs i8 ei8 hT hS => ?_)
  have hR8 := Rg_put hR7 ei8 (-2147483648) 2147483647 rfl (rg_top (i7 49 17)) (by decide)
  have hF8 := Fr_puti hF7 ei8 (by decide)
  refine lv_aload_n hx hb dX6_become_64 rfl (lv_at hl 1 rfl) ?_
  refine r_getr X hT 49 0 50 fk_6_9 rfl rfl (by decide) dX6_become_65 ?_
  refine lv_iconst (v := 0) hx hb dX6_become_68 (by decide) ?_
  refine lv_aload_n hx hb dX6_become_69 rfl (lv_at hl 0 rfl) ?_
  refine r_getr X hT 15 0 16 fk_6_9 rfl rfl (by decide) dX6_become_70 ?_
  refine lv_iconst (v := 0) hx hb dX6_become_73 (by decide) ?_
  refine lv_bipush (v := 6) hx hb dX6_become_74 (by decide) ?_
  refine r_copyi X hT hS hl.1 50 16 rfl rfl (by decide) (by decide) gm_654 gm_656 gm_655 gm_123 (rg_k (by decide) : rg 0 0 0) (rg_k (by decide) : rg 0 0 0) (rg_k (by decide) : rg 6 6 6) (by decide) (Nat.le_of_ble_eq_true rfl) (by decide +kernel) dX6_become_76 (fun H locs i9 ei9 hT hS => ?_)
  have hR9 := Rg_cpy hR8 ei9 0 60 0 60 (fun _ => rfl) (fun _ => rfl) (by decide) (by decide)
  have hF9 := Fr_cpy hF8 ei9 (by decide)
  refine lv_aload_n hx hb dX6_become_79 rfl (lv_at hl 1 rfl) ?_
  refine r_getr X hT 49 1 51 fk_6_15 rfl rfl (by decide) dX6_become_80 ?_
  refine lv_iconst (v := 0) hx hb dX6_become_83 (by decide) ?_
  refine lv_aload_n hx hb dX6_become_84 rfl (lv_at hl 0 rfl) ?_
  refine r_getr X hT 15 1 17 fk_6_15 rfl rfl (by decide) dX6_become_85 ?_
  refine lv_iconst (v := 0) hx hb dX6_become_88 (by decide) ?_
  refine lv_bipush (v := 6) hx hb dX6_become_89 (by decide) ?_
  refine r_copyi X hT hS hl.1 51 17 rfl rfl (by decide) (by decide) gm_654 gm_656 gm_655 gm_123 (rg_k (by decide) : rg 0 0 0) (rg_k (by decide) : rg 0 0 0) (rg_k (by decide) : rg 6 6 6) (by decide) (Nat.le_of_ble_eq_true rfl) (by decide +kernel) dX6_become_91 (fun H locs i10 ei10 hT hS => ?_)
  have hR10 := Rg_cpy hR9 ei10 0 9 0 9 (fun _ => rfl) (fun _ => rfl) (by decide) (by decide)
  have hF10 := Fr_cpy hF9 ei10 (by decide)
  refine lv_aload_n hx hb dX6_become_94 rfl (lv_at hl 1 rfl) ?_
  refine r_getr X hT 49 2 52 fk_6_18 rfl rfl (by decide) dX6_become_95 ?_
  refine lv_iconst (v := 0) hx hb dX6_become_98 (by decide) ?_
  refine lv_aload_n hx hb dX6_become_99 rfl (lv_at hl 0 rfl) ?_
  refine r_getr X hT 15 2 18 fk_6_18 rfl rfl (by decide) dX6_become_100 ?_
  refine lv_iconst (v := 0) hx hb dX6_become_103 (by decide) ?_
  refine lv_bipush (v := 6) hx hb dX6_become_104 (by decide) ?_
  refine r_copyi X hT hS hl.1 52 18 rfl rfl (by decide) (by decide) gm_654 gm_656 gm_655 gm_123 (rg_k (by decide) : rg 0 0 0) (rg_k (by decide) : rg 0 0 0) (rg_k (by decide) : rg 6 6 6) (by decide) (Nat.le_of_ble_eq_true rfl) (by decide +kernel) dX6_become_106 (fun H locs i11 ei11 hT hS => ?_)
  have hR11 := Rg_cpy hR10 ei11 0 60 0 60 (fun _ => rfl) (fun _ => rfl) (by decide) (by decide)
  have hF11 := Fr_cpy hF10 ei11 (by decide)
  refine lv_aload_n hx hb dX6_become_109 rfl (lv_at hl 1 rfl) ?_
  refine r_getr X hT 49 3 53 fk_6_21 rfl rfl (by decide) dX6_become_110 ?_
  refine lv_iconst (v := 0) hx hb dX6_become_113 (by decide) ?_
  refine lv_aload_n hx hb dX6_become_114 rfl (lv_at hl 0 rfl) ?_
  refine r_getr X hT 15 3 19 fk_6_21 rfl rfl (by decide) dX6_become_115 ?_
  refine lv_iconst (v := 0) hx hb dX6_become_118 (by decide) ?_
  refine lv_bipush (v := 10) hx hb dX6_become_119 (by decide) ?_
  refine r_copyi X hT hS hl.1 53 19 rfl rfl (by decide) (by decide) gm_654 gm_656 gm_655 gm_123 (rg_k (by decide) : rg 0 0 0) (rg_k (by decide) : rg 0 0 0) (rg_k (by decide) : rg 10 10 10) (by decide) (Nat.le_of_ble_eq_true rfl) (by decide +kernel) dX6_become_121 (fun H locs i12 ei12 hT hS => ?_)
  have hR12 := Rg_cpy hR11 ei12 0 5 0 5 (fun _ => rfl) (fun _ => rfl) (by decide) (by decide)
  have hF12 := Fr_cpy hF11 ei12 (by decide)
  refine lv_aload_n hx hb dX6_become_124 rfl (lv_at hl 1 rfl) ?_
  refine r_getr X hT 49 4 54 fk_6_24 rfl rfl (by decide) dX6_become_125 ?_
  refine lv_iconst (v := 0) hx hb dX6_become_128 (by decide) ?_
  refine lv_aload_n hx hb dX6_become_129 rfl (lv_at hl 0 rfl) ?_
  refine r_getr X hT 15 4 20 fk_6_24 rfl rfl (by decide) dX6_become_130 ?_
  refine lv_iconst (v := 0) hx hb dX6_become_133 (by decide) ?_
  refine lv_bipush (v := 10) hx hb dX6_become_134 (by decide) ?_
  refine r_copyi X hT hS hl.1 54 20 rfl rfl (by decide) (by decide) gm_654 gm_656 gm_655 gm_123 (rg_k (by decide) : rg 0 0 0) (rg_k (by decide) : rg 0 0 0) (rg_k (by decide) : rg 10 10 10) (by decide) (Nat.le_of_ble_eq_true rfl) (by decide +kernel) dX6_become_136 (fun H locs i13 ei13 hT hS => ?_)
  have hR13 := Rg_cpy hR12 ei13 0 5 0 5 (fun _ => rfl) (fun _ => rfl) (by decide) (by decide)
  have hF13 := Fr_cpy hF12 ei13 (by decide)
  refine lv_aload_n hx hb dX6_become_139 rfl (lv_at hl 1 rfl) ?_
  refine r_getr X hT 49 5 55 fk_6_27 rfl rfl (by decide) dX6_become_140 ?_
  refine lv_iconst (v := 0) hx hb dX6_become_143 (by decide) ?_
  refine lv_aload_n hx hb dX6_become_144 rfl (lv_at hl 0 rfl) ?_
  refine r_getr X hT 15 5 21 fk_6_27 rfl rfl (by decide) dX6_become_145 ?_
  refine lv_iconst (v := 0) hx hb dX6_become_148 (by decide) ?_
  refine lv_bipush (v := 8) hx hb dX6_become_149 (by decide) ?_
  refine r_copyi X hT hS hl.1 55 21 rfl rfl (by decide) (by decide) gm_654 gm_656 gm_655 gm_123 (rg_k (by decide) : rg 0 0 0) (rg_k (by decide) : rg 0 0 0) (rg_k (by decide) : rg 8 8 8) (by decide) (Nat.le_of_ble_eq_true rfl) (by decide +kernel) dX6_become_151 (fun H locs i14 ei14 hT hS => ?_)
  have hR14 := Rg_cpy hR13 ei14 0 5 0 5 (fun _ => rfl) (fun _ => rfl) (by decide) (by decide)
  have hF14 := Fr_cpy hF13 ei14 (by decide)
  refine lv_aload_n hx hb dX6_become_154 rfl (lv_at hl 1 rfl) ?_
  refine r_getr X hT 49 6 56 fk_6_30 rfl rfl (by decide) dX6_become_155 ?_
  refine lv_iconst (v := 0) hx hb dX6_become_158 (by decide) ?_
  refine lv_aload_n hx hb dX6_become_159 rfl (lv_at hl 0 rfl) ?_
  refine r_getr X hT 15 6 22 fk_6_30 rfl rfl (by decide) dX6_become_160 ?_
  refine lv_iconst (v := 0) hx hb dX6_become_163 (by decide) ?_
  refine lv_bipush (v := 8) hx hb dX6_become_164 (by decide) ?_
  refine r_copyi X hT hS hl.1 56 22 rfl rfl (by decide) (by decide) gm_654 gm_656 gm_655 gm_123 (rg_k (by decide) : rg 0 0 0) (rg_k (by decide) : rg 0 0 0) (rg_k (by decide) : rg 8 8 8) (by decide) (Nat.le_of_ble_eq_true rfl) (by decide +kernel) dX6_become_166 (fun H locs i15 ei15 hT hS => ?_)
  have hR15 := Rg_cpy hR14 ei15 0 11 0 11 (fun _ => rfl) (fun _ => rfl) (by decide) (by decide)
  have hF15 := Fr_cpy hF14 ei15 (by decide)
  refine lv_aload_n hx hb dX6_become_169 rfl (lv_at hl 1 rfl) ?_
  refine r_getr X hT 49 7 57 fk_6_33 rfl rfl (by decide) dX6_become_170 ?_
  refine lv_iconst (v := 0) hx hb dX6_become_173 (by decide) ?_
  refine lv_aload_n hx hb dX6_become_174 rfl (lv_at hl 0 rfl) ?_
  refine r_getr X hT 15 7 23 fk_6_33 rfl rfl (by decide) dX6_become_175 ?_
  refine lv_iconst (v := 0) hx hb dX6_become_178 (by decide) ?_
  refine lv_bipush (v := 20) hx hb dX6_become_179 (by decide) ?_
  refine r_copyi X hT hS hl.1 57 23 rfl rfl (by decide) (by decide) gm_654 gm_656 gm_655 gm_123 (rg_k (by decide) : rg 0 0 0) (rg_k (by decide) : rg 0 0 0) (rg_k (by decide) : rg 20 20 20) (by decide) (Nat.le_of_ble_eq_true rfl) (by decide +kernel) dX6_become_181 (fun H locs i16 ei16 hT hS => ?_)
  have hR16 := Rg_cpy hR15 ei16 0 1 0 1 (fun _ => rfl) (fun _ => rfl) (by decide) (by decide)
  have hF16 := Fr_cpy hF15 ei16 (by decide)
  refine lv_aload_n hx hb dX6_become_184 rfl (lv_at hl 1 rfl) ?_
  refine r_getr X hT 49 8 58 fk_6_36 rfl rfl (by decide) dX6_become_185 ?_
  refine lv_iconst (v := 0) hx hb dX6_become_188 (by decide) ?_
  refine lv_aload_n hx hb dX6_become_189 rfl (lv_at hl 0 rfl) ?_
  refine r_getr X hT 15 8 24 fk_6_36 rfl rfl (by decide) dX6_become_190 ?_
  refine lv_iconst (v := 0) hx hb dX6_become_193 (by decide) ?_
  refine lv_bipush (v := 20) hx hb dX6_become_194 (by decide) ?_
  refine r_copyi X hT hS hl.1 58 24 rfl rfl (by decide) (by decide) gm_654 gm_656 gm_655 gm_123 (rg_k (by decide) : rg 0 0 0) (rg_k (by decide) : rg 0 0 0) (rg_k (by decide) : rg 20 20 20) (by decide) (Nat.le_of_ble_eq_true rfl) (by decide +kernel) dX6_become_196 (fun H locs i17 ei17 hT hS => ?_)
  have hR17 := Rg_cpy hR16 ei17 0 5 0 5 (fun _ => rfl) (fun _ => rfl) (by decide) (by decide)
  have hF17 := Fr_cpy hF16 ei17 (by decide)
  refine lv_aload_n hx hb dX6_become_199 rfl (lv_at hl 1 rfl) ?_
  refine r_getr X hT 49 9 59 fk_6_39 rfl rfl (by decide) dX6_become_200 ?_
  refine lv_iconst (v := 0) hx hb dX6_become_203 (by decide) ?_
  refine lv_aload_n hx hb dX6_become_204 rfl (lv_at hl 0 rfl) ?_
  refine r_getr X hT 15 9 25 fk_6_39 rfl rfl (by decide) dX6_become_205 ?_
  refine lv_iconst (v := 0) hx hb dX6_become_208 (by decide) ?_
  refine lv_bipush (v := 20) hx hb dX6_become_209 (by decide) ?_
  refine r_copyi X hT hS hl.1 59 25 rfl rfl (by decide) (by decide) gm_654 gm_656 gm_655 gm_123 (rg_k (by decide) : rg 0 0 0) (rg_k (by decide) : rg 0 0 0) (rg_k (by decide) : rg 20 20 20) (by decide) (Nat.le_of_ble_eq_true rfl) (by decide +kernel) dX6_become_211 (fun H locs i18 ei18 hT hS => ?_)
  have hR18 := Rg_cpy hR17 ei18 0 11 0 11 (fun _ => rfl) (fun _ => rfl) (by decide) (by decide)
  have hF18 := Fr_cpy hF17 ei18 (by decide)
  exact hret _ _ _ _ _ _ dX6_become_214 hT hS ⟨hR18, hF18⟩
set_option maxRecDepth 100000 in
set_option maxHeartbeats 4000000 in
theorem m_X8_back {l : Launch} {D : va_G} {h : Nat → Nat} {cz : Nat → ClassId} {z : EZ} {i : Nat → Nat → Int32} {g : Nat → Nat → Int64} (hR : Rg rA i) (a_a : Int32) : DtI l yX8_back cX8_back 2 (some .int) ({ frames := 2, cells := 0, slots := 0, locals := 61 } : Room) D h cz z i g [.ref (h 0), .int a_a] (fun r u => Rg rA u.1 ∧ Fr [0, 15, 16, 17, 18, 19, 20, 21, 22, 23, 24, 25] [] i g u ∧ rg (-6) 0 r) := by
  refine e_I pn_X8_back (Nat.le_of_ble_eq_true rfl) ?_
  intro p e s m args below meth c ls Q X Y hret hT hl hS
  have hx := X.1
  have hb := X.2.1
  have hl : lv_has ls 2 [(0, .ref (h 0)), (1, .int a_a)] := hl
  have hF : Fr [0, 15, 16, 17, 18, 19, 20, 21, 22, 23, 24, 25] [] i g (i, g) := Fr_rf _ _ _ _
  refine lv_iload_n hx hb dX8_back_0 rfl (lv_at hl 1 rfl) ?_
  refine lv_if_lt (tgt := 9) hx hb dX8_back_1 (by decide) (fun c1 => ?_) (fun c1 => ?_)
  ·
    have q1 : a_a.toInt < 0 := i_lt c1
    have h2 : rg (-2147483648) (-1) a_a := t_ltx (-2147483648) (-1) (rg_top a_a) (rg_k (by decide) : rg 0 0 0) (i_lt c1) (by decide)
    refine lv_bipush (v := (-2)) hx hb dX8_back_9 (by decide) ?_
    exact hret (-2) _ _ _ _ _ _ dX8_back_11 hT hS ⟨hR, hF, (rg_w (rg_k (by decide) : rg (-2) (-2) (-2)) (by decide) : rg (-6) 0 (-2))⟩
  ·
    have q1 : 0 ≤ a_a.toInt := i_nlt c1
    have h3 : rg 0 2147483647 a_a := t_ley 0 2147483647 (rg_k (by decide) : rg 0 0 0) (rg_top a_a) (i_nlt c1) (by decide)
    refine lv_iload_n hx hb dX8_back_4 rfl (lv_at hl 1 rfl) ?_
    refine lv_iconst (v := 3) hx hb dX8_back_5 (by decide) ?_
    refine lv_icmp_lt (tgt := 12) hx hb dX8_back_6 (by decide) (fun c4 => ?_) (fun c4 => ?_)
    ·
      have q4 : a_a.toInt < 3 := i_lt c4
      have h5 : rg 0 2 a_a := t_ltx 0 2 h3 (rg_k (by decide) : rg 3 3 3) (i_lt c4) (by decide)
      refine lv_aload_n hx hb dX8_back_12 rfl (lv_at hl 0 rfl) ?_
      refine r_getr X hT 0 5 60 fk_8_39 rfl rfl (by decide) dX8_back_13 ?_
      refine lv_iload_n hx hb dX8_back_16 rfl (lv_at hl 1 rfl) ?_
      refine r_zald X hT 60 rfl (by decide) (v_in h5 (by decide)) dX8_back_17 ?_
      refine lv_if_ne (tgt := 24) hx hb dX8_back_18 (by decide) (fun c6 => ?_) (fun c6 => ?_)
      ·
        have q6 : ¬ (i 60 a_a.toNatClampNeg).toInt = 0 := i_ne c6
        have h7 : rg 1 1 (i 60 a_a.toNatClampNeg) := t_nelo 1 (Rg_at hR 60 a_a.toNatClampNeg 0 1 (v_lt (v_in h5 (by decide))) rfl) (rg_k (by decide) : rg 0 0 0) (i_ne c6) (by decide)
        refine lv_aload_n hx hb dX8_back_24 rfl (lv_at hl 0 rfl) ?_
        refine r_getr X hT 0 3 15 fk_8_32 rfl rfl (by decide) dX8_back_25 ?_
        refine lv_aload_n hx hb dX8_back_28 rfl (lv_at hl 0 rfl) ?_
        refine r_getr X hT 0 4 26 fk_8_35 rfl rfl (by decide) dX8_back_29 ?_
        refine lv_iload_n hx hb dX8_back_32 rfl (lv_at hl 1 rfl) ?_
        rcases (show a_a.toInt = 0 ∨ a_a.toInt = 1 ∨ a_a.toInt = 2 by have := h5.1; have := h5.2; omega) with f8 | f8 | f8
        ·
          have h9 : rg 0 0 a_a := ⟨by omega, by omega⟩
          refine r_aald X hT 26 27 rfl (by decide) (v_in h5 (by decide)) (by rw [cl_c h9 0 rfl (by decide)]; rfl) dX8_back_33 ?_
          refine e_Vv (As := [.ref (h 27)]) (rest := []) X Y hT hS (m_X6_become_15_27 hR) mk_X6_become gm_650 rfl rfl (by decide) hd_X6_become ⟨rfl, rfl⟩ ⟨Nat.le_of_ble_eq_true rfl, Nat.le_of_ble_eq_true rfl⟩ hl.1 rfl (Nat.le_of_ble_eq_true rfl) dX8_back_34 ⟨Nat.zero_le _, Nat.zero_le _⟩ (fun i10 g10 H locs hq hT hS => ?_)
          obtain ⟨hR10, hf10⟩ := hq
          have hF10 := Fr_tr hF hf10 (by decide)
          refine lv_aload_n hx hb dX8_back_37 rfl (lv_at hl 0 rfl) ?_
          refine e_Vv (As := []) (rest := []) X Y hT hS (m_X8_forgetAnswers hR10) mk_X8_forgetAnswers gm_657 rfl rfl (by decide) hd_X8_forgetAnswers ⟨rfl, rfl⟩ ⟨Nat.le_of_ble_eq_true rfl, Nat.le_of_ble_eq_true rfl⟩ hl.1 rfl (Nat.le_of_ble_eq_true rfl) dX8_back_38 ⟨Nat.zero_le _, Nat.zero_le _⟩ (fun i11 g11 H locs hq hT hS => ?_)
          obtain ⟨hR11, hf11⟩ := hq
          have hF11 := Fr_tr hF10 hf11 (by decide)
          refine lv_iconst (v := 0) hx hb dX8_back_41 (by decide) ?_
          exact hret 0 _ _ _ _ _ _ dX8_back_42 hT hS ⟨hR11, hF11, (rg_w (rg_k (by decide) : rg 0 0 0) (by decide) : rg (-6) 0 0)⟩
        ·
          have h12 : rg 1 1 a_a := ⟨by omega, by omega⟩
          refine r_aald X hT 26 38 rfl (by decide) (v_in h5 (by decide)) (by rw [cl_c h12 1 rfl (by decide)]; rfl) dX8_back_33 ?_
          refine e_Vv (As := [.ref (h 38)]) (rest := []) X Y hT hS (m_X6_become_15_38 hR) mk_X6_become gm_650 rfl rfl (by decide) hd_X6_become ⟨rfl, rfl⟩ ⟨Nat.le_of_ble_eq_true rfl, Nat.le_of_ble_eq_true rfl⟩ hl.1 rfl (Nat.le_of_ble_eq_true rfl) dX8_back_34 ⟨Nat.zero_le _, Nat.zero_le _⟩ (fun i13 g13 H locs hq hT hS => ?_)
          obtain ⟨hR13, hf13⟩ := hq
          have hF13 := Fr_tr hF hf13 (by decide)
          refine lv_aload_n hx hb dX8_back_37 rfl (lv_at hl 0 rfl) ?_
          refine e_Vv (As := []) (rest := []) X Y hT hS (m_X8_forgetAnswers hR13) mk_X8_forgetAnswers gm_657 rfl rfl (by decide) hd_X8_forgetAnswers ⟨rfl, rfl⟩ ⟨Nat.le_of_ble_eq_true rfl, Nat.le_of_ble_eq_true rfl⟩ hl.1 rfl (Nat.le_of_ble_eq_true rfl) dX8_back_38 ⟨Nat.zero_le _, Nat.zero_le _⟩ (fun i14 g14 H locs hq hT hS => ?_)
          obtain ⟨hR14, hf14⟩ := hq
          have hF14 := Fr_tr hF13 hf14 (by decide)
          refine lv_iconst (v := 0) hx hb dX8_back_41 (by decide) ?_
          exact hret 0 _ _ _ _ _ _ dX8_back_42 hT hS ⟨hR14, hF14, (rg_w (rg_k (by decide) : rg 0 0 0) (by decide) : rg (-6) 0 0)⟩
        ·
          have h15 : rg 2 2 a_a := ⟨by omega, by omega⟩
          refine r_aald X hT 26 49 rfl (by decide) (v_in h5 (by decide)) (by rw [cl_c h15 2 rfl (by decide)]; rfl) dX8_back_33 ?_
          refine e_Vv (As := [.ref (h 49)]) (rest := []) X Y hT hS (m_X6_become_15_49 hR) mk_X6_become gm_650 rfl rfl (by decide) hd_X6_become ⟨rfl, rfl⟩ ⟨Nat.le_of_ble_eq_true rfl, Nat.le_of_ble_eq_true rfl⟩ hl.1 rfl (Nat.le_of_ble_eq_true rfl) dX8_back_34 ⟨Nat.zero_le _, Nat.zero_le _⟩ (fun i16 g16 H locs hq hT hS => ?_)
          obtain ⟨hR16, hf16⟩ := hq
          have hF16 := Fr_tr hF hf16 (by decide)
          refine lv_aload_n hx hb dX8_back_37 rfl (lv_at hl 0 rfl) ?_
          refine e_Vv (As := []) (rest := []) X Y hT hS (m_X8_forgetAnswers hR16) mk_X8_forgetAnswers gm_657 rfl rfl (by decide) hd_X8_forgetAnswers ⟨rfl, rfl⟩ ⟨Nat.le_of_ble_eq_true rfl, Nat.le_of_ble_eq_true rfl⟩ hl.1 rfl (Nat.le_of_ble_eq_true rfl) dX8_back_38 ⟨Nat.zero_le _, Nat.zero_le _⟩ (fun i17 g17 H locs hq hT hS => ?_)
          obtain ⟨hR17, hf17⟩ := hq
          have hF17 := Fr_tr hF16 hf17 (by decide)
          refine lv_iconst (v := 0) hx hb dX8_back_41 (by decide) ?_
          exact hret 0 _ _ _ _ _ _ dX8_back_42 hT hS ⟨hR17, hF17, (rg_w (rg_k (by decide) : rg 0 0 0) (by decide) : rg (-6) 0 0)⟩
      ·
        have q6 : (i 60 a_a.toNatClampNeg).toInt = 0 := i_eq c6
        have h18 : rg 0 0 (i 60 a_a.toNatClampNeg) := t_eqx 0 0 (Rg_at hR 60 a_a.toNatClampNeg 0 1 (v_lt (v_in h5 (by decide))) rfl) (rg_k (by decide) : rg 0 0 0) (i_eq c6) (by decide)
        refine lv_bipush (v := (-6)) hx hb dX8_back_21 (by decide) ?_
        exact hret (-6) _ _ _ _ _ _ dX8_back_23 hT hS ⟨hR, hF, (rg_w (rg_k (by decide) : rg (-6) (-6) (-6)) (by decide) : rg (-6) 0 (-6))⟩
    ·
      have q4 : 3 ≤ a_a.toInt := i_nlt c4
      have h19 : rg 3 2147483647 a_a := t_ley 3 2147483647 (rg_k (by decide) : rg 3 3 3) h3 (i_nlt c4) (by decide)
      refine lv_bipush (v := (-2)) hx hb dX8_back_9 (by decide) ?_
      exact hret (-2) _ _ _ _ _ _ dX8_back_11 hT hS ⟨hR, hF, (rg_w (rg_k (by decide) : rg (-2) (-2) (-2)) (by decide) : rg (-6) 0 (-2))⟩
set_option maxRecDepth 100000 in
set_option maxHeartbeats 4000000 in
theorem m_J7_rangeCheck_23922_240t240_0t180_60t240 {l : Launch} {D : va_G} {h : Nat → Nat} {cz : Nat → ClassId} {z : EZ} {i : Nat → Nat → Int32} {g : Nat → Nat → Int64} (a_a : Int32) (a_b : Int32) (a_c : Int32) (ha_a : rg 240 240 a_a) (ha_b : rg 0 180 a_b) (ha_c : rg 60 240 a_c) (hbc : a_b.toInt ≤ a_c.toInt) : DtV l yJ7_rangeCheck_23922 cJ7_rangeCheck_23922 3 none ({ frames := 0, cells := 0, slots := 0, locals := 0 } : Room) D h cz z i g [.int a_a, .int a_b, .int a_c] (fun u => u = (i, g)) := by
  refine e_V pn_J7_rangeCheck_23922 (Nat.le_of_ble_eq_true rfl) ?_
  intro p e s m args below meth c ls Q X Y hret hT hl hS
  have hx := X.1
  have hb := X.2.1
  have hl : lv_has ls 3 [(0, .int a_a), (1, .int a_b), (2, .int a_c)] := hl
  refine lv_iload_n hx hb dJ7_rangeCheck_23922_0 rfl (lv_at hl 1 rfl) ?_
  refine lv_iload_n hx hb dJ7_rangeCheck_23922_1 rfl (lv_at hl 2 rfl) ?_
  refine lv_icmp_le (tgt := 46) hx hb dJ7_rangeCheck_23922_2 (by decide) (fun c1 => ?_) (fun c1 => (by have := hbc; have := (i_nle c1); omega : False).elim)
  have q1 : a_b.toInt ≤ a_c.toInt := i_le c1
  refine lv_iload_n hx hb dJ7_rangeCheck_23922_46 rfl (lv_at hl 1 rfl) ?_
  refine lv_if_ge (tgt := 59) hx hb dJ7_rangeCheck_23922_47 (by decide) (fun c2 => ?_) (fun c2 => (x_lt ha_b (rg_k (by decide) : rg 0 0 0) (i_nle c2) (by decide)).elim)
  have q2 : 0 ≤ a_b.toInt := i_le c2
  refine lv_iload_n hx hb dJ7_rangeCheck_23922_59 rfl (lv_at hl 2 rfl) ?_
  refine lv_iload_n hx hb dJ7_rangeCheck_23922_60 rfl (lv_at hl 0 rfl) ?_
  refine lv_icmp_le (tgt := 73) hx hb dJ7_rangeCheck_23922_61 (by decide) (fun c3 => ?_) (fun c3 => (x_lt ha_a ha_c (i_nle c3) (by decide)).elim)
  have q3 : a_c.toInt ≤ a_a.toInt := i_le c3
  exact hret _ _ _ _ _ _ dJ7_rangeCheck_23922_73 hT hS rfl
set_option maxRecDepth 100000 in
set_option maxHeartbeats 4000000 in
theorem m_J7_fill_bad5a_64 {l : Launch} {D : va_G} {h : Nat → Nat} {cz : Nat → ClassId} {z : EZ} {i : Nat → Nat → Int32} {g : Nat → Nat → Int64} (hR : Rg rA i) (a_b : Int32) (a_c : Int32) (a_d : Int64) (ha_b : rg 0 180 a_b) (ha_c : rg 60 240 a_c) (hbc : a_b.toInt ≤ a_c.toInt) : DtV l yJ7_fill_bad5a cJ7_fill_bad5a 6 none ({ frames := 1, cells := 0, slots := 0, locals := 22 } : Room) D h cz z i g [.ref (h 64), .int a_b, .int a_c, .long a_d] (fun u => Rg rA u.1 ∧ Fr [] [64] i g u) := by
  refine e_V pn_J7_fill_bad5a (Nat.le_of_ble_eq_true rfl) ?_
  intro p e s m args below meth c ls Q X Y hret hT hl hS
  have hx := X.1
  have hb := X.2.1
  have hl : lv_has ls 6 [(0, .ref (h 64)), (1, .int a_b), (2, .int a_c), (3, .long a_d)] := hl
  have hF : Fr [] [64] i g (i, g) := Fr_rf _ _ _ _
  refine lv_aload_n hx hb dJ7_fill_bad5a_0 rfl (lv_at hl 0 rfl) ?_
  refine r_alen (v := 240) X hT 64 rfl (by decide) (by decide) (by decide) dJ7_fill_bad5a_1 ?_
  refine lv_iload_n hx hb dJ7_fill_bad5a_2 rfl (lv_at hl 1 rfl) ?_
  refine lv_iload_n hx hb dJ7_fill_bad5a_3 rfl (lv_at hl 2 rfl) ?_
  refine e_Sv (As := [.int 240, .int a_b, .int a_c]) (rest := []) X Y hT hS (m_J7_rangeCheck_23922_240t240_0t180_60t240 (240) a_b a_c (rg_k (by decide) : rg 240 240 240) ha_b ha_c hbc) sk_J7_rangeCheck_23922 gm_1297 hd_J7_rangeCheck_23922 ⟨rfl, rfl⟩ ⟨Nat.le_of_ble_eq_true rfl, Nat.le_of_ble_eq_true rfl⟩ hl.1 rfl (Nat.le_of_ble_eq_true rfl) dJ7_fill_bad5a_4 ⟨Nat.zero_le _, Nat.zero_le _⟩ (fun i1 g1 H locs hq hT hS => ?_)
  have eh1 := hq
  rw [(Prod.mk.inj eh1).1, (Prod.mk.inj eh1).2] at hT
  refine lv_iload_n hx hb dJ7_fill_bad5a_7 rfl (lv_at hl 1 rfl) ?_
  refine lv_istore (lv' := [(5, .int a_b), (0, .ref (h 64)), (1, .int a_b), (2, .int a_c), (3, .long a_d)]) hx hb dJ7_fill_bad5a_8 hl (by decide) rfl (fun ls hl => ?_)
  have L10_2 : ∀ (n4_ : Nat) (x10_5 : Int32) (g3 : Nat → Nat → Int64) (H : Heap) (locs : List Loc) (ls : Array Slot), rg 0 255 x10_5 → Fr [] [64] i g (i, g3) → TH D h cz i g3 H → va_S (hA h) s.heap H locs → lv_has ls 6 [(0, .ref (h 64)), (2, .int a_c), (3, .long a_d), (5, .int x10_5)] → (255 - x10_5.toInt).toNat < n4_ → W p l e ({ frames := 1, cells := 0, slots := 0, locals := 22 } : Room) s m args below meth c H locs 0 0 Q (F0 m 10 ls []) := by
    intro n4_
    induction n4_ with
    | zero => intro x10_5 g3 H locs ls hhx10_5 hF3 hT hS hl hm4_; exact absurd hm4_ (Nat.not_lt_zero _)
    | succ n4_ ih4_ =>
      intro x10_5 g3 H locs ls hhx10_5 hF3 hT hS hl hm4_
      refine lv_iload hx hb dJ7_fill_bad5a_10 (lv_at hl 3 rfl) ?_
      refine lv_iload_n hx hb dJ7_fill_bad5a_12 rfl (lv_at hl 1 rfl) ?_
      refine lv_icmp_ge (tgt := 27) hx hb dJ7_fill_bad5a_13 (by decide) (fun c5 => ?_) (fun c5 => ?_)
      ·
        have q5 : a_c.toInt ≤ x10_5.toInt := i_le c5
        have h6 : rg 60 255 x10_5 := t_ley 60 255 ha_c hhx10_5 (i_le c5) (by decide)
        exact hret _ _ _ _ _ _ dJ7_fill_bad5a_27 hT hS ⟨hR, hF3⟩
      ·
        have q5 : x10_5.toInt < a_c.toInt := i_nle c5
        have h7 : rg 0 239 x10_5 := t_ltx 0 239 hhx10_5 ha_c (i_nle c5) (by decide)
        refine lv_aload_n hx hb dJ7_fill_bad5a_16 rfl (lv_at hl 0 rfl) ?_
        refine lv_iload hx hb dJ7_fill_bad5a_17 (lv_at hl 3 rfl) ?_
        refine lv_lload_n hx hb dJ7_fill_bad5a_19 rfl (lv_at hl 2 rfl) ?_
        refine r_last X hT hS 64 rfl (by decide) (v_in h7 (by decide)) dJ7_fill_bad5a_20 (fun H locs g8 eg8 hT hS => ?_)
        have hF8 := Fr_putl hF3 eg8 (by decide)
        obtain ⟨x9, ex9⟩ : ∃ y : Int32, y = x10_5 + 1 := ⟨_, rfl⟩
        refine lv_iinc (v := x9) (lv' := [(5, .int x9), (0, .ref (h 64)), (2, .int a_c), (3, .long a_d)]) hx hb dJ7_fill_bad5a_21 hl (k := 3) rfl (by rw [ex9]; rfl) (by decide) rfl (fun ls hl => ?_)
        obtain ⟨hx9, ax9⟩ := rg_add 1 240 ex9 h7 (rg_k (by decide) : rg 1 1 1) (by decide)
        replace ax9 : x9.toInt = x10_5.toInt + 1 := ax9
        refine lv_goto (tgt := 10) hx hb dJ7_fill_bad5a_24 (by decide) ?_
        exact ih4_ x9 g8 _ _ _ (rg_w hx9 (by decide) : rg 0 255 x9) hF8 hT hS (lv_sub hl [1, 2, 3, 0] rfl) (m_up ax9 hx9 (by decide) hm4_)
  exact L10_2 _ a_b g _ _ _ (rg_w ha_b (by decide) : rg 0 255 a_b) hF hT hS (lv_sub hl [1, 3, 4, 0] rfl) (Nat.lt_succ_self _)
set_option maxRecDepth 100000 in
set_option maxHeartbeats 4000000 in
theorem m_X5_lay {l : Launch} {D : va_G} {h : Nat → Nat} {cz : Nat → ClassId} {z : EZ} {i : Nat → Nat → Int32} {g : Nat → Nat → Int64} (hR : Rg rA i) (a_a : Int32) (a_b : Int32) (a_c : Int32) (ha_a : rg 0 3 a_a) (ha_b : rg 0 3 a_b) (ha_c : rg 0 60 a_c) : DtV l yX5_lay cX5_lay 5 none ({ frames := 2, cells := 0, slots := 0, locals := 47 } : Room) D h cz z i g [.ref (h 61), .int a_a, .int a_b, .int a_c] (fun u => Rg rA u.1 ∧ Fr [62, 63] [64] i g u ∧ u.1 62 = upd (i 62) a_a.toNatClampNeg a_b ∧ u.1 63 = upd (i 63) a_a.toNatClampNeg a_c) := by
  refine e_V pn_X5_lay (Nat.le_of_ble_eq_true rfl) ?_
  intro p e s m args below meth c ls Q X Y hret hT hl hS
  have hx := X.1
  have hb := X.2.1
  have hl : lv_has ls 5 [(0, .ref (h 61)), (1, .int a_a), (2, .int a_b), (3, .int a_c)] := hl
  have hF : Fr [62, 63] [64] i g (i, g) := Fr_rf _ _ _ _
  refine lv_aload_n hx hb dX5_lay_0 rfl (lv_at hl 0 rfl) ?_
  refine r_getr X hT 61 0 62 fk_5_9 rfl rfl (by decide) dX5_lay_1 ?_
  refine lv_iload_n hx hb dX5_lay_4 rfl (lv_at hl 1 rfl) ?_
  refine lv_iload_n hx hb dX5_lay_5 rfl (lv_at hl 2 rfl) ?_
  refine r_iast X hT hS 62 rfl (by decide) (v_in ha_a (by decide)) dX5_lay_6 (fun H locs i1 ei1 hT hS => ?_)
  have hR1 := Rg_put hR ei1 (-1) 3 rfl ha_b (by decide)
  have hF1 := Fr_puti hF ei1 (by decide)
  refine lv_aload_n hx hb dX5_lay_7 rfl (lv_at hl 0 rfl) ?_
  refine r_getr X hT 61 1 63 fk_5_15 rfl rfl (by decide) dX5_lay_8 ?_
  refine lv_iload_n hx hb dX5_lay_11 rfl (lv_at hl 1 rfl) ?_
  refine lv_iload_n hx hb dX5_lay_12 rfl (lv_at hl 3 rfl) ?_
  refine r_iast X hT hS 63 rfl (by decide) (v_in ha_a (by decide)) dX5_lay_13 (fun H locs i2 ei2 hT hS => ?_)
  have hR2 := Rg_put hR1 ei2 0 60 rfl ha_c (by decide)
  have hF2 := Fr_puti hF1 ei2 (by decide)
  refine lv_iload_n hx hb dX5_lay_14 rfl (lv_at hl 1 rfl) ?_
  refine lv_bipush (v := 60) hx hb dX5_lay_15 (by decide) ?_
  refine q_imul hx hb dX5_lay_17 (fun x3 ex3 => ?_)
  obtain ⟨hx3, ax3⟩ := rg_mul 0 180 ex3 ha_a (rg_k (by decide) : rg 60 60 60) (by decide)
  replace ax3 : x3.toInt = a_a.toInt * 60 := ax3
  refine lv_istore (lv' := [(4, .int x3), (0, .ref (h 61)), (1, .int a_a), (2, .int a_b), (3, .int a_c)]) hx hb dX5_lay_18 hl (by decide) rfl (fun ls hl => ?_)
  refine lv_aload_n hx hb dX5_lay_20 rfl (lv_at hl 1 rfl) ?_
  refine r_getr X hT 61 2 64 fk_5_18 rfl rfl (by decide) dX5_lay_21 ?_
  refine lv_iload hx hb dX5_lay_24 (lv_at hl 0 rfl) ?_
  refine lv_iload hx hb dX5_lay_26 (lv_at hl 0 rfl) ?_
  refine lv_bipush (v := 60) hx hb dX5_lay_28 (by decide) ?_
  refine q_iadd hx hb dX5_lay_30 (fun x4 ex4 => ?_)
  obtain ⟨hx4, ax4⟩ := rg_add 60 240 ex4 hx3 (rg_k (by decide) : rg 60 60 60) (by decide)
  replace ax4 : x4.toInt = x3.toInt + 60 := ax4
  refine lv_lconst (v := 0) hx hb dX5_lay_31 (by decide) ?_
  refine e_Sv (As := [.ref (h 64), .int x3, .int x4, .long 0]) (rest := []) X Y hT hS (m_J7_fill_bad5a_64 hR2 x3 x4 (0) hx3 hx4 (by have := ax4; omega)) sk_J7_fill_bad5a gm_1294 hd_J7_fill_bad5a ⟨rfl, rfl⟩ ⟨Nat.le_of_ble_eq_true rfl, Nat.le_of_ble_eq_true rfl⟩ hl.1 rfl (Nat.le_of_ble_eq_true rfl) dX5_lay_32 ⟨Nat.zero_le _, Nat.zero_le _⟩ (fun i5 g5 H locs hq hT hS => ?_)
  obtain ⟨hR5, hf5⟩ := hq
  have hF5 := Fr_tr hF2 hf5 (by decide)
  exact hret _ _ _ _ _ _ dX5_lay_35 hT hS ⟨hR5, hF5, ((hf5.1 62 (by decide)).trans ((cell_j ei2 (by decide)).trans ((cell_s ei1).trans (congrArg (fun f => upd f _ _) (rfl : i 62 = i 62))))), ((hf5.1 63 (by decide)).trans ((cell_s ei2).trans (congrArg (fun f => upd f _ _) ((cell_j ei1 (by decide)).trans (rfl : i 63 = i 63)))))⟩
set_option maxRecDepth 100000 in
set_option maxHeartbeats 4000000 in
theorem m_X8_row {l : Launch} {D : va_G} {h : Nat → Nat} {cz : Nat → ClassId} {z : EZ} {i : Nat → Nat → Int32} {g : Nat → Nat → Int64} (hR : Rg rA i) (a_a : Int32) (a_b : Int32) (a_c : Int32) : DtI l yX8_row cX8_row 4 (some .int) ({ frames := 3, cells := 0, slots := 0, locals := 71 } : Room) D h cz z i g [.ref (h 0), .int a_a, .int a_b, .int a_c] (fun r u => (Rg rA u.1 ∧ Fr [62, 63] [64] i g u ∧ r = 0 ∧ ((0 ≤ a_a.toInt ∧ a_a.toInt ≤ 3) ∧ (0 ≤ a_b.toInt ∧ a_b.toInt ≤ 3) ∧ 0 ≤ a_c.toInt ∧ a_c.toInt ≤ 60) ∧ u.1 62 = upd (i 62) a_a.toNatClampNeg a_b ∧ u.1 63 = upd (i 63) a_a.toNatClampNeg a_c) ∨ (Rg rA u.1 ∧ Fr [62, 63] [64] i g u ∧ r = (-3) ∧ ((0 ≤ a_a.toInt ∧ a_a.toInt ≤ 3) ∧ (0 ≤ a_b.toInt ∧ a_b.toInt ≤ 3) ∧ a_c.toInt < 0) ∧ u.1 62 = i 62 ∧ u.1 63 = i 63) ∨ (Rg rA u.1 ∧ Fr [62, 63] [64] i g u ∧ r = (-2) ∧ ((a_a.toInt < 0 ∨ 3 < a_a.toInt) ∨ (a_b.toInt < 0 ∨ 3 < a_b.toInt) ∨ 60 < a_c.toInt) ∧ u.1 62 = i 62 ∧ u.1 63 = i 63)) := by
  refine e_I pn_X8_row (Nat.le_of_ble_eq_true rfl) ?_
  intro p e s m args below meth c ls Q X Y hret hT hl hS
  have hx := X.1
  have hb := X.2.1
  have hl : lv_has ls 4 [(0, .ref (h 0)), (1, .int a_a), (2, .int a_b), (3, .int a_c)] := hl
  have hF : Fr [62, 63] [64] i g (i, g) := Fr_rf _ _ _ _
  refine lv_aload_n hx hb dX8_row_0 rfl (lv_at hl 0 rfl) ?_
  refine r_getr X hT 0 6 61 fk_8_46 rfl rfl (by decide) dX8_row_1 ?_
  refine lv_iload_n hx hb dX8_row_4 rfl (lv_at hl 1 rfl) ?_
  refine e_Vi (As := [.int a_a]) (rest := []) X Y hT hS (m_X5_isSlot hR a_a) mk_X5_isSlot gm_1056 rfl rfl (by decide) hd_X5_isSlot ⟨rfl, rfl⟩ ⟨Nat.le_of_ble_eq_true rfl, Nat.le_of_ble_eq_true rfl⟩ hl.1 rfl (Nat.le_of_ble_eq_true rfl) dX8_row_5 ⟨Nat.zero_le _, Nat.zero_le _⟩ (fun r1 i1 g1 H locs hq hT hS => ?_)
  rcases hq with hq | hq
  ·
    obtain ⟨eh1, rfl, hf1_0⟩ := hq
    rw [(Prod.mk.inj eh1).1, (Prod.mk.inj eh1).2] at hT
    have h2 : rg 0 3 a_a := ⟨by have := (rg_top a_a).1; have := hf1_0.1; omega, by have := (rg_top a_a).2; have := hf1_0.2; omega⟩
    refine lv_if_eq (tgt := 26) hx hb dX8_row_8 (by decide) (fun c3 => (x_eq (rg_k (by decide) : rg 1 1 1) (rg_k (by decide) : rg 0 0 0) (i_eq c3) (by decide)).elim) (fun c3 => ?_)
    refine lv_iload_n hx hb dX8_row_11 rfl (lv_at hl 2 rfl) ?_
    refine lv_if_lt (tgt := 26) hx hb dX8_row_12 (by decide) (fun c4 => ?_) (fun c4 => ?_)
    ·
      have q4 : a_b.toInt < 0 := i_lt c4
      have h5 : rg (-2147483648) (-1) a_b := t_ltx (-2147483648) (-1) (rg_top a_b) (rg_k (by decide) : rg 0 0 0) (i_lt c4) (by decide)
      refine lv_bipush (v := (-2)) hx hb dX8_row_26 (by decide) ?_
      exact hret (-2) _ _ _ _ _ _ dX8_row_28 hT hS (Or.inr (Or.inr ⟨hR, hF, rfl, (by have := h2.1; have := h2.2; have := h5.1; have := h5.2; omega), (rfl : i 62 = i 62), (rfl : i 63 = i 63)⟩))
    ·
      have q4 : 0 ≤ a_b.toInt := i_nlt c4
      have h6 : rg 0 2147483647 a_b := t_ley 0 2147483647 (rg_k (by decide) : rg 0 0 0) (rg_top a_b) (i_nlt c4) (by decide)
      refine lv_iload_n hx hb dX8_row_15 rfl (lv_at hl 2 rfl) ?_
      refine lv_iconst (v := 4) hx hb dX8_row_16 (by decide) ?_
      refine lv_icmp_ge (tgt := 26) hx hb dX8_row_17 (by decide) (fun c7 => ?_) (fun c7 => ?_)
      ·
        have q7 : 4 ≤ a_b.toInt := i_le c7
        have h8 : rg 4 2147483647 a_b := t_ley 4 2147483647 (rg_k (by decide) : rg 4 4 4) h6 (i_le c7) (by decide)
        refine lv_bipush (v := (-2)) hx hb dX8_row_26 (by decide) ?_
        exact hret (-2) _ _ _ _ _ _ dX8_row_28 hT hS (Or.inr (Or.inr ⟨hR, hF, rfl, (by have := h2.1; have := h2.2; have := h8.1; have := h8.2; omega), (rfl : i 62 = i 62), (rfl : i 63 = i 63)⟩))
      ·
        have q7 : a_b.toInt < 4 := i_nle c7
        have h9 : rg 0 3 a_b := t_ltx 0 3 h6 (rg_k (by decide) : rg 4 4 4) (i_nle c7) (by decide)
        refine lv_iload_n hx hb dX8_row_20 rfl (lv_at hl 3 rfl) ?_
        refine lv_bipush (v := 60) hx hb dX8_row_21 (by decide) ?_
        refine lv_icmp_le (tgt := 29) hx hb dX8_row_23 (by decide) (fun c10 => ?_) (fun c10 => ?_)
        ·
          have q10 : a_c.toInt ≤ 60 := i_le c10
          have h11 : rg (-2147483648) 60 a_c := t_lex (-2147483648) 60 (rg_top a_c) (rg_k (by decide) : rg 60 60 60) (i_le c10) (by decide)
          refine lv_iload_n hx hb dX8_row_29 rfl (lv_at hl 3 rfl) ?_
          refine lv_if_ge (tgt := 36) hx hb dX8_row_30 (by decide) (fun c12 => ?_) (fun c12 => ?_)
          ·
            have q12 : 0 ≤ a_c.toInt := i_le c12
            have h13 : rg 0 60 a_c := t_ley 0 60 (rg_k (by decide) : rg 0 0 0) h11 (i_le c12) (by decide)
            refine lv_aload_n hx hb dX8_row_36 rfl (lv_at hl 0 rfl) ?_
            refine r_getr X hT 0 6 61 fk_8_46 rfl rfl (by decide) dX8_row_37 ?_
            refine lv_iload_n hx hb dX8_row_40 rfl (lv_at hl 1 rfl) ?_
            refine lv_iload_n hx hb dX8_row_41 rfl (lv_at hl 2 rfl) ?_
            refine lv_iload_n hx hb dX8_row_42 rfl (lv_at hl 3 rfl) ?_
            refine e_Vv (As := [.int a_a, .int a_b, .int a_c]) (rest := []) X Y hT hS (m_X5_lay hR a_a a_b a_c h2 h9 h13) mk_X5_lay gm_1290 rfl rfl (by decide) hd_X5_lay ⟨rfl, rfl⟩ ⟨Nat.le_of_ble_eq_true rfl, Nat.le_of_ble_eq_true rfl⟩ hl.1 rfl (Nat.le_of_ble_eq_true rfl) dX8_row_43 ⟨Nat.zero_le _, Nat.zero_le _⟩ (fun i14 g14 H locs hq hT hS => ?_)
            obtain ⟨hR14, hf14, hf14_0, hf14_1⟩ := hq
            have hF14 := Fr_tr hF hf14 (by decide)
            refine lv_iconst (v := 0) hx hb dX8_row_46 (by decide) ?_
            exact hret 0 _ _ _ _ _ _ dX8_row_47 hT hS (Or.inl ⟨hR14, hF14, rfl, (by have := h2.1; have := h2.2; have := h9.1; have := h9.2; have := h13.1; have := h13.2; omega), (hf14_0.trans (congrArg (fun f => upd f _ _) (rfl : i 62 = i 62))), (hf14_1.trans (congrArg (fun f => upd f _ _) (rfl : i 63 = i 63)))⟩)
          ·
            have q12 : a_c.toInt < 0 := i_nle c12
            have h15 : rg (-2147483648) (-1) a_c := t_ltx (-2147483648) (-1) h11 (rg_k (by decide) : rg 0 0 0) (i_nle c12) (by decide)
            refine lv_bipush (v := (-3)) hx hb dX8_row_33 (by decide) ?_
            exact hret (-3) _ _ _ _ _ _ dX8_row_35 hT hS (Or.inr (Or.inl ⟨hR, hF, rfl, (by have := h2.1; have := h2.2; have := h9.1; have := h9.2; have := h15.1; have := h15.2; omega), (rfl : i 62 = i 62), (rfl : i 63 = i 63)⟩))
        ·
          have q10 : 60 < a_c.toInt := i_nle c10
          have h16 : rg 61 2147483647 a_c := t_lty 61 2147483647 (rg_k (by decide) : rg 60 60 60) (rg_top a_c) (i_nle c10) (by decide)
          refine lv_bipush (v := (-2)) hx hb dX8_row_26 (by decide) ?_
          exact hret (-2) _ _ _ _ _ _ dX8_row_28 hT hS (Or.inr (Or.inr ⟨hR, hF, rfl, (by have := h2.1; have := h2.2; have := h9.1; have := h9.2; have := h16.1; have := h16.2; omega), (rfl : i 62 = i 62), (rfl : i 63 = i 63)⟩))
  ·
    obtain ⟨eh1, rfl, hf1_0⟩ := hq
    rw [(Prod.mk.inj eh1).1, (Prod.mk.inj eh1).2] at hT
    refine lv_if_eq (tgt := 26) hx hb dX8_row_8 (by decide) (fun c17 => ?_) (fun c17 => (x_ne (rg_k (by decide) : rg 0 0 0) (rg_k (by decide) : rg 0 0 0) (i_ne c17) (by decide)).elim)
    refine lv_bipush (v := (-2)) hx hb dX8_row_26 (by decide) ?_
    exact hret (-2) _ _ _ _ _ _ dX8_row_28 hT hS (Or.inr (Or.inr ⟨hR, hF, rfl, (by omega), (rfl : i 62 = i 62), (rfl : i 63 = i 63)⟩))
set_option maxRecDepth 100000 in
set_option maxHeartbeats 4000000 in
theorem m_X5_covers {l : Launch} {D : va_G} {h : Nat → Nat} {cz : Nat → ClassId} {z : EZ} {i : Nat → Nat → Int32} {g : Nat → Nat → Int64} (hR : Rg rA i) (a_a : Int32) (a_b : Int32) (a_c : Int32) (ha_a : rg 0 3 a_a) : DtI l yX5_covers cX5_covers 4 (some .boolean) ({ frames := 0, cells := 0, slots := 0, locals := 0 } : Room) D h cz z i g [.ref (h 61), .int a_a, .int a_b, .int a_c] (fun r u => (u = (i, g) ∧ r = 1 ∧ ((0 : Int) ≤ a_b.toInt ∧ (0 : Int) ≤ a_c.toInt ∧ (a_b.toInt : Int) + a_c.toInt ≤ (i 63 a_a.toNatClampNeg).toInt)) ∨ (u = (i, g) ∧ r = 0 ∧ (¬ ((0 : Int) ≤ a_b.toInt ∧ (0 : Int) ≤ a_c.toInt ∧ (a_b.toInt : Int) + a_c.toInt ≤ (i 63 a_a.toNatClampNeg).toInt)))) := by
  refine e_Z (fun v u hq => (hq.elim (fun hq => (Or.inr hq.2.1)) (fun hq => (Or.inl hq.2.1)))) pn_X5_covers (Nat.le_of_ble_eq_true rfl) ?_
  intro p e s m args below meth c ls Q X Y hret hT hl hS
  have hx := X.1
  have hb := X.2.1
  have hl : lv_has ls 4 [(0, .ref (h 61)), (1, .int a_a), (2, .int a_b), (3, .int a_c)] := hl
  refine lv_iload_n hx hb dX5_covers_0 rfl (lv_at hl 2 rfl) ?_
  refine lv_if_lt (tgt := 28) hx hb dX5_covers_1 (by decide) (fun c1 => ?_) (fun c1 => ?_)
  ·
    have q1 : a_b.toInt < 0 := i_lt c1
    have h2 : rg (-2147483648) (-1) a_b := t_ltx (-2147483648) (-1) (rg_top a_b) (rg_k (by decide) : rg 0 0 0) (i_lt c1) (by decide)
    refine lv_iconst (v := 0) hx hb dX5_covers_28 (by decide) ?_
    exact hret 0 _ _ _ _ _ _ dX5_covers_29 hT hS (Or.inr ⟨rfl, rfl, (by omega)⟩)
  ·
    have q1 : 0 ≤ a_b.toInt := i_nlt c1
    have h3 : rg 0 2147483647 a_b := t_ley 0 2147483647 (rg_k (by decide) : rg 0 0 0) (rg_top a_b) (i_nlt c1) (by decide)
    refine lv_iload_n hx hb dX5_covers_4 rfl (lv_at hl 3 rfl) ?_
    refine lv_if_lt (tgt := 28) hx hb dX5_covers_5 (by decide) (fun c4 => ?_) (fun c4 => ?_)
    ·
      have q4 : a_c.toInt < 0 := i_lt c4
      have h5 : rg (-2147483648) (-1) a_c := t_ltx (-2147483648) (-1) (rg_top a_c) (rg_k (by decide) : rg 0 0 0) (i_lt c4) (by decide)
      refine lv_iconst (v := 0) hx hb dX5_covers_28 (by decide) ?_
      exact hret 0 _ _ _ _ _ _ dX5_covers_29 hT hS (Or.inr ⟨rfl, rfl, (by omega)⟩)
    ·
      have q4 : 0 ≤ a_c.toInt := i_nlt c4
      have h6 : rg 0 2147483647 a_c := t_ley 0 2147483647 (rg_k (by decide) : rg 0 0 0) (rg_top a_c) (i_nlt c4) (by decide)
      refine lv_iload_n hx hb dX5_covers_8 rfl (lv_at hl 2 rfl) ?_
      refine q_i2l hx hb dX5_covers_9 (fun y7 ey7 => ?_)
      obtain ⟨hy7, ay7⟩ := rg_i2l ey7 h3
      refine lv_iload_n hx hb dX5_covers_10 rfl (lv_at hl 3 rfl) ?_
      refine q_i2l hx hb dX5_covers_11 (fun y8 ey8 => ?_)
      obtain ⟨hy8, ay8⟩ := rg_i2l ey8 h6
      refine q_ladd hx hb dX5_covers_12 (fun y9 ey9 => ?_)
      obtain ⟨hy9, ay9⟩ := rgL_add 0 4294967294 ey9 hy7 hy8 (by decide)
      refine lv_aload_n hx hb dX5_covers_13 rfl (lv_at hl 0 rfl) ?_
      refine r_getr X hT 61 1 63 fk_5_15 rfl rfl (by decide) dX5_covers_14 ?_
      refine lv_iload_n hx hb dX5_covers_17 rfl (lv_at hl 1 rfl) ?_
      refine r_iald X hT 63 rfl (by decide) (v_in ha_a (by decide)) dX5_covers_18 ?_
      refine q_i2l hx hb dX5_covers_19 (fun y10 ey10 => ?_)
      obtain ⟨hy10, ay10⟩ := rg_i2l ey10 (Rg_at hR 63 a_a.toNatClampNeg 0 60 (v_lt (v_in ha_a (by decide))) rfl)
      refine W.lcmp hx hb dX5_covers_20 ?_
      refine lv_if_gt (tgt := 28) hx hb dX5_covers_21 (by decide) (fun c11 => ?_) (fun c11 => ?_)
      ·
        have q11 : y10.toInt < y9.toInt := c_gt c11
        have h12 : rgL 1 4294967294 y9 := tL_lty 1 4294967294 hy10 hy9 (c_gt c11) (by decide)
        refine lv_iconst (v := 0) hx hb dX5_covers_28 (by decide) ?_
        exact hret 0 _ _ _ _ _ _ dX5_covers_29 hT hS (Or.inr ⟨rfl, rfl, (by omega)⟩)
      ·
        have q11 : y9.toInt ≤ y10.toInt := c_ngt c11
        have h13 : rgL 0 60 y9 := tL_lex 0 60 hy9 hy10 (c_ngt c11) (by decide)
        refine lv_iconst (v := 1) hx hb dX5_covers_24 (by decide) ?_
        refine lv_goto (tgt := 29) hx hb dX5_covers_25 (by decide) ?_
        exact hret 1 _ _ _ _ _ _ dX5_covers_29 hT hS (Or.inl ⟨rfl, rfl, (by omega)⟩)
set_option maxRecDepth 100000 in
set_option maxHeartbeats 4000000 in
theorem m_X5_cutTo {l : Launch} {D : va_G} {h : Nat → Nat} {cz : Nat → ClassId} {z : EZ} {i : Nat → Nat → Int32} {g : Nat → Nat → Int64} (a_a : Int32) (a_b : Int64) : DtL l yX5_cutTo cX5_cutTo 3 (some .long) ({ frames := 0, cells := 0, slots := 0, locals := 0 } : Room) D h cz z i g [.int a_a, .long a_b] (fun r u => u = (i, g)) := by
  refine e_L pn_X5_cutTo (Nat.le_of_ble_eq_true rfl) ?_
  intro p e s m args below meth c ls Q X Y hret hT hl hS
  have hx := X.1
  have hb := X.2.1
  have hl : lv_has ls 3 [(0, .int a_a), (1, .long a_b)] := hl
  refine lv_iload_n hx hb dX5_cutTo_0 rfl (lv_at hl 0 rfl) ?_
  rcases Int.lt_or_le a_a.toInt 0 with c1 | c1
  ·
    refine lv_tableOut (tgt := 42) hx hb dX5_cutTo_1 (Or.inl c1) (by decide) ?_
    refine lv_lload_n hx hb dX5_cutTo_42 rfl (lv_at hl 1 rfl) ?_
    exact hret a_b _ _ _ _ _ _ dX5_cutTo_43 hT hS rfl
  ·
    rcases Int.lt_or_le 2 a_a.toInt with d1 | d1
    ·
      refine lv_tableOut (tgt := 42) hx hb dX5_cutTo_1 (Or.inr d1) (by decide) ?_
      refine lv_lload_n hx hb dX5_cutTo_42 rfl (lv_at hl 1 rfl) ?_
      exact hret a_b _ _ _ _ _ _ dX5_cutTo_43 hT hS rfl
    ·
      rcases (show a_a.toInt = 0 ∨ a_a.toInt = 1 ∨ a_a.toInt = 2 by omega) with f1 | f1 | f1
      ·
        refine lv_tableIn (tgt := 28) (off := 27) hx hb dX5_cutTo_1 (by omega) (by omega) (by rw [f1]; rfl) (by decide) ?_
        have h2 : rg 0 0 a_a := ⟨by omega, by omega⟩
        refine lv_lload_n hx hb dX5_cutTo_28 rfl (lv_at hl 1 rfl) ?_
        refine q_l2i hx hb dX5_cutTo_29 (fun x3 ex3 => ?_)
        refine q_i2b hx hb dX5_cutTo_30 (fun x4 ex4 => ?_)
        refine q_i2l hx hb dX5_cutTo_31 (fun y5 ey5 => ?_)
        obtain ⟨hy5, ay5⟩ := rg_i2l ey5 (rg_top x4)
        exact hret y5 _ _ _ _ _ _ dX5_cutTo_32 hT hS rfl
      ·
        refine lv_tableIn (tgt := 33) (off := 32) hx hb dX5_cutTo_1 (by omega) (by omega) (by rw [f1]; rfl) (by decide) ?_
        have h6 : rg 1 1 a_a := ⟨by omega, by omega⟩
        refine lv_lload_n hx hb dX5_cutTo_33 rfl (lv_at hl 1 rfl) ?_
        refine q_l2i hx hb dX5_cutTo_34 (fun x7 ex7 => ?_)
        refine q_i2s hx hb dX5_cutTo_35 (fun x8 ex8 => ?_)
        refine q_i2l hx hb dX5_cutTo_36 (fun y9 ey9 => ?_)
        obtain ⟨hy9, ay9⟩ := rg_i2l ey9 (rg_top x8)
        exact hret y9 _ _ _ _ _ _ dX5_cutTo_37 hT hS rfl
      ·
        refine lv_tableIn (tgt := 38) (off := 37) hx hb dX5_cutTo_1 (by omega) (by omega) (by rw [f1]; rfl) (by decide) ?_
        have h10 : rg 2 2 a_a := ⟨by omega, by omega⟩
        refine lv_lload_n hx hb dX5_cutTo_38 rfl (lv_at hl 1 rfl) ?_
        refine q_l2i hx hb dX5_cutTo_39 (fun x11 ex11 => ?_)
        refine q_i2l hx hb dX5_cutTo_40 (fun y12 ey12 => ?_)
        obtain ⟨hy12, ay12⟩ := rg_i2l ey12 (rg_top x11)
        exact hret y12 _ _ _ _ _ _ dX5_cutTo_41 hT hS rfl
set_option maxRecDepth 100000 in
set_option maxHeartbeats 4000000 in
theorem m_X5_put_61 {l : Launch} {D : va_G} {h : Nat → Nat} {cz : Nat → ClassId} {z : EZ} {i : Nat → Nat → Int32} {g : Nat → Nat → Int64} (hR : Rg rA i) (a_a : Int32) (a_b : Int32) (a_c : Int64) (ha_a : rg 0 3 a_a) (ha_b : rg 0 59 a_b) : DtV l yX5_put cX5_put 5 none ({ frames := 1, cells := 0, slots := 0, locals := 22 } : Room) D h cz z i g [.ref (h 61), .int a_a, .int a_b, .long a_c] (fun u => Rg rA u.1 ∧ Fr [] [64] i g u) := by
  refine e_V pn_X5_put (Nat.le_of_ble_eq_true rfl) ?_
  intro p e s m args below meth c ls Q X Y hret hT hl hS
  have hx := X.1
  have hb := X.2.1
  have hl : lv_has ls 5 [(0, .ref (h 61)), (1, .int a_a), (2, .int a_b), (3, .long a_c)] := hl
  have hF : Fr [] [64] i g (i, g) := Fr_rf _ _ _ _
  refine lv_aload_n hx hb dX5_put_0 rfl (lv_at hl 0 rfl) ?_
  refine r_getr X hT 61 2 64 fk_5_18 rfl rfl (by decide) dX5_put_1 ?_
  refine lv_iload_n hx hb dX5_put_4 rfl (lv_at hl 1 rfl) ?_
  refine lv_bipush (v := 60) hx hb dX5_put_5 (by decide) ?_
  refine q_imul hx hb dX5_put_7 (fun x1 ex1 => ?_)
  obtain ⟨hx1, ax1⟩ := rg_mul 0 180 ex1 ha_a (rg_k (by decide) : rg 60 60 60) (by decide)
  replace ax1 : x1.toInt = a_a.toInt * 60 := ax1
  refine lv_iload_n hx hb dX5_put_8 rfl (lv_at hl 2 rfl) ?_
  refine q_iadd hx hb dX5_put_9 (fun x2 ex2 => ?_)
  obtain ⟨hx2, ax2⟩ := rg_add 0 239 ex2 hx1 ha_b (by decide)
  replace ax2 : x2.toInt = x1.toInt + a_b.toInt := ax2
  refine lv_aload_n hx hb dX5_put_10 rfl (lv_at hl 0 rfl) ?_
  refine r_getr X hT 61 0 62 fk_5_9 rfl rfl (by decide) dX5_put_11 ?_
  refine lv_iload_n hx hb dX5_put_14 rfl (lv_at hl 1 rfl) ?_
  refine r_iald X hT 62 rfl (by decide) (v_in ha_a (by decide)) dX5_put_15 ?_
  refine lv_lload_n hx hb dX5_put_16 rfl (lv_at hl 3 rfl) ?_
  refine e_Sl (As := [.int (i 62 a_a.toNatClampNeg), .long a_c]) (rest := [.int x2, .ref (h 64)]) X Y hT hS (m_X5_cutTo (i 62 a_a.toNatClampNeg) a_c) sk_X5_cutTo gm_1312 hd_X5_cutTo ⟨rfl, rfl⟩ ⟨Nat.le_of_ble_eq_true rfl, Nat.le_of_ble_eq_true rfl⟩ hl.1 rfl (Nat.le_of_ble_eq_true rfl) dX5_put_17 ⟨Nat.zero_le _, Nat.zero_le _⟩ (fun r3 i3 g3 H locs hq hT hS => ?_)
  have eh3 := hq
  rw [(Prod.mk.inj eh3).1, (Prod.mk.inj eh3).2] at hT
  refine r_last X hT hS 64 rfl (by decide) (v_in hx2 (by decide)) dX5_put_20 (fun H locs g4 eg4 hT hS => ?_)
  have hF4 := Fr_putl hF eg4 (by decide)
  exact hret _ _ _ _ _ _ dX5_put_21 hT hS ⟨hR, hF4⟩
set_option maxRecDepth 100000 in
set_option maxHeartbeats 4000000 in
theorem m_X8_write {l : Launch} {D : va_G} {h : Nat → Nat} {cz : Nat → ClassId} {z : EZ} {i : Nat → Nat → Int32} {g : Nat → Nat → Int64} (hR : Rg rA i) (a_a : Int32) (a_b : Int32) (a_c : Int64) : DtI l yX8_write cX8_write 5 (some .int) ({ frames := 2, cells := 0, slots := 0, locals := 46 } : Room) D h cz z i g [.ref (h 0), .int a_a, .int a_b, .long a_c] (fun r u => (Rg rA u.1 ∧ Fr [] [64] i g u ∧ r = 0 ∧ ((0 ≤ a_a.toInt ∧ a_a.toInt ≤ 3) ∧ ¬ (i 62 a_a.toNatClampNeg).toInt = -1 ∧ (0 ≤ a_b.toInt ∧ a_b.toInt + 1 ≤ (i 63 a_a.toNatClampNeg).toInt))) ∨ (Rg rA u.1 ∧ Fr [] [64] i g u ∧ r = (-7) ∧ ((0 ≤ a_a.toInt ∧ a_a.toInt ≤ 3) ∧ ¬ (i 62 a_a.toNatClampNeg).toInt = -1 ∧ ¬ (0 ≤ a_b.toInt ∧ a_b.toInt + 1 ≤ (i 63 a_a.toNatClampNeg).toInt))) ∨ (Rg rA u.1 ∧ Fr [] [64] i g u ∧ r = (-6) ∧ ((0 ≤ a_a.toInt ∧ a_a.toInt ≤ 3) ∧ (i 62 a_a.toNatClampNeg).toInt = -1)) ∨ (Rg rA u.1 ∧ Fr [] [64] i g u ∧ r = (-2) ∧ ((a_a.toInt < 0 ∨ 3 < a_a.toInt)))) := by
  refine e_I pn_X8_write (Nat.le_of_ble_eq_true rfl) ?_
  intro p e s m args below meth c ls Q X Y hret hT hl hS
  have hx := X.1
  have hb := X.2.1
  have hl : lv_has ls 5 [(0, .ref (h 0)), (1, .int a_a), (2, .int a_b), (3, .long a_c)] := hl
  have hF : Fr [] [64] i g (i, g) := Fr_rf _ _ _ _
  refine lv_aload_n hx hb dX8_write_0 rfl (lv_at hl 0 rfl) ?_
  refine r_getr X hT 0 6 61 fk_8_46 rfl rfl (by decide) dX8_write_1 ?_
  refine lv_iload_n hx hb dX8_write_4 rfl (lv_at hl 1 rfl) ?_
  refine e_Vi (As := [.int a_a]) (rest := []) X Y hT hS (m_X5_isSlot hR a_a) mk_X5_isSlot gm_1056 rfl rfl (by decide) hd_X5_isSlot ⟨rfl, rfl⟩ ⟨Nat.le_of_ble_eq_true rfl, Nat.le_of_ble_eq_true rfl⟩ hl.1 rfl (Nat.le_of_ble_eq_true rfl) dX8_write_5 ⟨Nat.zero_le _, Nat.zero_le _⟩ (fun r1 i1 g1 H locs hq hT hS => ?_)
  rcases hq with hq | hq
  ·
    obtain ⟨eh1, rfl, hf1_0⟩ := hq
    rw [(Prod.mk.inj eh1).1, (Prod.mk.inj eh1).2] at hT
    have h2 : rg 0 3 a_a := ⟨by have := (rg_top a_a).1; have := hf1_0.1; omega, by have := (rg_top a_a).2; have := hf1_0.2; omega⟩
    refine lv_if_ne (tgt := 14) hx hb dX8_write_8 (by decide) (fun c3 => ?_) (fun c3 => (x_eq (rg_k (by decide) : rg 1 1 1) (rg_k (by decide) : rg 0 0 0) (i_eq c3) (by decide)).elim)
    refine lv_aload_n hx hb dX8_write_14 rfl (lv_at hl 0 rfl) ?_
    refine r_getr X hT 0 6 61 fk_8_46 rfl rfl (by decide) dX8_write_15 ?_
    refine lv_iload_n hx hb dX8_write_18 rfl (lv_at hl 1 rfl) ?_
    refine e_Vi (As := [.int a_a]) (rest := []) X Y hT hS (m_X5_isBare hR a_a h2) mk_X5_isBare gm_1060 rfl rfl (by decide) hd_X5_isBare ⟨rfl, rfl⟩ ⟨Nat.le_of_ble_eq_true rfl, Nat.le_of_ble_eq_true rfl⟩ hl.1 rfl (Nat.le_of_ble_eq_true rfl) dX8_write_19 ⟨Nat.zero_le _, Nat.zero_le _⟩ (fun r4 i4 g4 H locs hq hT hS => ?_)
    rcases hq with hq | hq
    ·
      obtain ⟨eh4, rfl, hf4_0⟩ := hq
      rw [(Prod.mk.inj eh4).1, (Prod.mk.inj eh4).2] at hT
      refine lv_if_eq (tgt := 28) hx hb dX8_write_22 (by decide) (fun c5 => (x_eq (rg_k (by decide) : rg 1 1 1) (rg_k (by decide) : rg 0 0 0) (i_eq c5) (by decide)).elim) (fun c5 => ?_)
      refine lv_bipush (v := (-6)) hx hb dX8_write_25 (by decide) ?_
      exact hret (-6) _ _ _ _ _ _ dX8_write_27 hT hS (Or.inr (Or.inr (Or.inl ⟨hR, hF, rfl, (by have := h2.1; have := h2.2; omega)⟩)))
    ·
      obtain ⟨eh4, rfl, hf4_0⟩ := hq
      rw [(Prod.mk.inj eh4).1, (Prod.mk.inj eh4).2] at hT
      refine lv_if_eq (tgt := 28) hx hb dX8_write_22 (by decide) (fun c6 => ?_) (fun c6 => (x_ne (rg_k (by decide) : rg 0 0 0) (rg_k (by decide) : rg 0 0 0) (i_ne c6) (by decide)).elim)
      refine lv_aload_n hx hb dX8_write_28 rfl (lv_at hl 0 rfl) ?_
      refine r_getr X hT 0 6 61 fk_8_46 rfl rfl (by decide) dX8_write_29 ?_
      refine lv_iload_n hx hb dX8_write_32 rfl (lv_at hl 1 rfl) ?_
      refine lv_iload_n hx hb dX8_write_33 rfl (lv_at hl 2 rfl) ?_
      refine lv_iconst (v := 1) hx hb dX8_write_34 (by decide) ?_
      refine e_Vi (As := [.int a_a, .int a_b, .int 1]) (rest := []) X Y hT hS (m_X5_covers hR a_a a_b (1) h2) mk_X5_covers gm_1304 rfl rfl (by decide) hd_X5_covers ⟨rfl, rfl⟩ ⟨Nat.le_of_ble_eq_true rfl, Nat.le_of_ble_eq_true rfl⟩ hl.1 rfl (Nat.le_of_ble_eq_true rfl) dX8_write_35 ⟨Nat.zero_le _, Nat.zero_le _⟩ (fun r7 i7 g7 H locs hq hT hS => ?_)
      rcases hq with hq | hq
      ·
        obtain ⟨eh7, rfl, hf7_0⟩ := hq
        rw [(Prod.mk.inj eh7).1, (Prod.mk.inj eh7).2] at hT
        replace hf7_0 : (0 : Int) ≤ a_b.toInt ∧ (0 : Int) ≤ 1 ∧ (a_b.toInt : Int) + 1 ≤ (i 63 a_a.toNatClampNeg).toInt := hf7_0
        have h8 : rg 0 59 a_b := ⟨by have := (Rg_at hR 63 a_a.toNatClampNeg 0 60 (v_lt (v_in h2 (by decide) : vp_in a_a 4)) rfl).2; have := (rg_top a_b).1; omega, by have := (Rg_at hR 63 a_a.toNatClampNeg 0 60 (v_lt (v_in h2 (by decide) : vp_in a_a 4)) rfl).2; have := (rg_top a_b).1; omega⟩
        refine lv_if_ne (tgt := 44) hx hb dX8_write_38 (by decide) (fun c9 => ?_) (fun c9 => (x_eq (rg_k (by decide) : rg 1 1 1) (rg_k (by decide) : rg 0 0 0) (i_eq c9) (by decide)).elim)
        refine lv_aload_n hx hb dX8_write_44 rfl (lv_at hl 0 rfl) ?_
        refine r_getr X hT 0 6 61 fk_8_46 rfl rfl (by decide) dX8_write_45 ?_
        refine lv_iload_n hx hb dX8_write_48 rfl (lv_at hl 1 rfl) ?_
        refine lv_iload_n hx hb dX8_write_49 rfl (lv_at hl 2 rfl) ?_
        refine lv_lload_n hx hb dX8_write_50 rfl (lv_at hl 3 rfl) ?_
        refine e_Vv (As := [.int a_a, .int a_b, .long a_c]) (rest := []) X Y hT hS (m_X5_put_61 hR a_a a_b a_c h2 h8) mk_X5_put gm_1308 rfl rfl (by decide) hd_X5_put ⟨rfl, rfl⟩ ⟨Nat.le_of_ble_eq_true rfl, Nat.le_of_ble_eq_true rfl⟩ hl.1 rfl (Nat.le_of_ble_eq_true rfl) dX8_write_51 ⟨Nat.zero_le _, Nat.zero_le _⟩ (fun i10 g10 H locs hq hT hS => ?_)
        obtain ⟨hR10, hf10⟩ := hq
        have hF10 := Fr_tr hF hf10 (by decide)
        refine lv_iconst (v := 0) hx hb dX8_write_54 (by decide) ?_
        exact hret 0 _ _ _ _ _ _ dX8_write_55 hT hS (Or.inl ⟨hR10, hF10, rfl, (by have := h2.1; have := h2.2; omega)⟩)
      ·
        obtain ⟨eh7, rfl, hf7_0⟩ := hq
        rw [(Prod.mk.inj eh7).1, (Prod.mk.inj eh7).2] at hT
        replace hf7_0 : ¬ ((0 : Int) ≤ a_b.toInt ∧ (0 : Int) ≤ 1 ∧ (a_b.toInt : Int) + 1 ≤ (i 63 a_a.toNatClampNeg).toInt) := hf7_0
        refine lv_if_ne (tgt := 44) hx hb dX8_write_38 (by decide) (fun c11 => (x_ne (rg_k (by decide) : rg 0 0 0) (rg_k (by decide) : rg 0 0 0) (i_ne c11) (by decide)).elim) (fun c11 => ?_)
        refine lv_bipush (v := (-7)) hx hb dX8_write_41 (by decide) ?_
        exact hret (-7) _ _ _ _ _ _ dX8_write_43 hT hS (Or.inr (Or.inl ⟨hR, hF, rfl, (by have := h2.1; have := h2.2; omega)⟩))
  ·
    obtain ⟨eh1, rfl, hf1_0⟩ := hq
    rw [(Prod.mk.inj eh1).1, (Prod.mk.inj eh1).2] at hT
    refine lv_if_ne (tgt := 14) hx hb dX8_write_8 (by decide) (fun c12 => (x_ne (rg_k (by decide) : rg 0 0 0) (rg_k (by decide) : rg 0 0 0) (i_ne c12) (by decide)).elim) (fun c12 => ?_)
    refine lv_bipush (v := (-2)) hx hb dX8_write_11 (by decide) ?_
    exact hret (-2) _ _ _ _ _ _ dX8_write_13 hT hS (Or.inr (Or.inr (Or.inr ⟨hR, hF, rfl, (by omega)⟩)))
set_option maxRecDepth 100000 in
set_option maxHeartbeats 4000000 in
theorem m_X5_areOfOneWidth {l : Launch} {D : va_G} {h : Nat → Nat} {cz : Nat → ClassId} {z : EZ} {i : Nat → Nat → Int32} {g : Nat → Nat → Int64} (hR : Rg rA i) (a_a : Int32) (a_b : Int32) (ha_a : rg 0 3 a_a) (ha_b : rg 0 3 a_b) : DtI l yX5_areOfOneWidth cX5_areOfOneWidth 3 (some .boolean) ({ frames := 0, cells := 0, slots := 0, locals := 0 } : Room) D h cz z i g [.ref (h 61), .int a_a, .int a_b] (fun r u => (u = (i, g) ∧ r = 1 ∧ ((i 62 a_a.toNatClampNeg).toInt = (i 62 a_b.toNatClampNeg).toInt)) ∨ (u = (i, g) ∧ r = 0 ∧ (¬ (i 62 a_a.toNatClampNeg).toInt = (i 62 a_b.toNatClampNeg).toInt))) := by
  refine e_Z (fun v u hq => (hq.elim (fun hq => (Or.inr hq.2.1)) (fun hq => (Or.inl hq.2.1)))) pn_X5_areOfOneWidth (Nat.le_of_ble_eq_true rfl) ?_
  intro p e s m args below meth c ls Q X Y hret hT hl hS
  have hx := X.1
  have hb := X.2.1
  have hl : lv_has ls 3 [(0, .ref (h 61)), (1, .int a_a), (2, .int a_b)] := hl
  refine lv_aload_n hx hb dX5_areOfOneWidth_0 rfl (lv_at hl 0 rfl) ?_
  refine r_getr X hT 61 0 62 fk_5_9 rfl rfl (by decide) dX5_areOfOneWidth_1 ?_
  refine lv_iload_n hx hb dX5_areOfOneWidth_4 rfl (lv_at hl 1 rfl) ?_
  refine r_iald X hT 62 rfl (by decide) (v_in ha_a (by decide)) dX5_areOfOneWidth_5 ?_
  refine lv_aload_n hx hb dX5_areOfOneWidth_6 rfl (lv_at hl 0 rfl) ?_
  refine r_getr X hT 61 0 62 fk_5_9 rfl rfl (by decide) dX5_areOfOneWidth_7 ?_
  refine lv_iload_n hx hb dX5_areOfOneWidth_10 rfl (lv_at hl 2 rfl) ?_
  refine r_iald X hT 62 rfl (by decide) (v_in ha_b (by decide)) dX5_areOfOneWidth_11 ?_
  refine lv_icmp_ne (tgt := 19) hx hb dX5_areOfOneWidth_12 (by decide) (fun c1 => ?_) (fun c1 => ?_)
  ·
    have q1 : ¬ (i 62 a_a.toNatClampNeg).toInt = (i 62 a_b.toNatClampNeg).toInt := i_ne c1
    refine lv_iconst (v := 0) hx hb dX5_areOfOneWidth_19 (by decide) ?_
    exact hret 0 _ _ _ _ _ _ dX5_areOfOneWidth_20 hT hS (Or.inr ⟨rfl, rfl, (by omega)⟩)
  ·
    have q1 : (i 62 a_a.toNatClampNeg).toInt = (i 62 a_b.toNatClampNeg).toInt := i_eq c1
    refine lv_iconst (v := 1) hx hb dX5_areOfOneWidth_15 (by decide) ?_
    refine lv_goto (tgt := 20) hx hb dX5_areOfOneWidth_16 (by decide) ?_
    exact hret 1 _ _ _ _ _ _ dX5_areOfOneWidth_20 hT hS (Or.inl ⟨rfl, rfl, (by omega)⟩)
set_option maxRecDepth 100000 in
set_option maxHeartbeats 4000000 in
theorem m_X5_move {l : Launch} {D : va_G} {h : Nat → Nat} {cz : Nat → ClassId} {z : EZ} {i : Nat → Nat → Int32} {g : Nat → Nat → Int64} (hR : Rg rA i) (a_a : Int32) (a_b : Int32) (a_c : Int32) (a_d : Int32) (a_e : Int32) (ha_a : rg 0 3 a_a) (ha_b : rg 0 60 a_b) (ha_c : rg 0 3 a_c) (ha_d : rg 0 60 a_d) (ha_e : rg 0 60 a_e) (hs1 : a_b.toInt + a_e.toInt ≤ 60) (hs2 : a_d.toInt + a_e.toInt ≤ 60) : DtV l yX5_move cX5_move 6 none ({ frames := 1, cells := 0, slots := 0, locals := 40 } : Room) D h cz z i g [.ref (h 61), .int a_a, .int a_b, .int a_c, .int a_d, .int a_e] (fun u => Rg rA u.1 ∧ Fr [] [64] i g u) := by
  refine e_V pn_X5_move (Nat.le_of_ble_eq_true rfl) ?_
  intro p e s m args below meth c ls Q X Y hret hT hl hS
  have hx := X.1
  have hb := X.2.1
  have hl : lv_has ls 6 [(0, .ref (h 61)), (1, .int a_a), (2, .int a_b), (3, .int a_c), (4, .int a_d), (5, .int a_e)] := hl
  have hF : Fr [] [64] i g (i, g) := Fr_rf _ _ _ _
  refine lv_aload_n hx hb dX5_move_0 rfl (lv_at hl 0 rfl) ?_
  refine r_getr X hT 61 2 64 fk_5_18 rfl rfl (by decide) dX5_move_1 ?_
  refine lv_iload_n hx hb dX5_move_4 rfl (lv_at hl 1 rfl) ?_
  refine lv_bipush (v := 60) hx hb dX5_move_5 (by decide) ?_
  refine q_imul hx hb dX5_move_7 (fun x1 ex1 => ?_)
  obtain ⟨hx1, ax1⟩ := rg_mul 0 180 ex1 ha_a (rg_k (by decide) : rg 60 60 60) (by decide)
  replace ax1 : x1.toInt = a_a.toInt * 60 := ax1
  refine lv_iload_n hx hb dX5_move_8 rfl (lv_at hl 2 rfl) ?_
  refine q_iadd hx hb dX5_move_9 (fun x2 ex2 => ?_)
  obtain ⟨hx2, ax2⟩ := rg_add 0 240 ex2 hx1 ha_b (by decide)
  replace ax2 : x2.toInt = x1.toInt + a_b.toInt := ax2
  refine lv_aload_n hx hb dX5_move_10 rfl (lv_at hl 0 rfl) ?_
  refine r_getr X hT 61 2 64 fk_5_18 rfl rfl (by decide) dX5_move_11 ?_
  refine lv_iload_n hx hb dX5_move_14 rfl (lv_at hl 3 rfl) ?_
  refine lv_bipush (v := 60) hx hb dX5_move_15 (by decide) ?_
  refine q_imul hx hb dX5_move_17 (fun x3 ex3 => ?_)
  obtain ⟨hx3, ax3⟩ := rg_mul 0 180 ex3 ha_c (rg_k (by decide) : rg 60 60 60) (by decide)
  replace ax3 : x3.toInt = a_c.toInt * 60 := ax3
  refine lv_iload hx hb dX5_move_18 (lv_at hl 4 rfl) ?_
  refine q_iadd hx hb dX5_move_20 (fun x4 ex4 => ?_)
  obtain ⟨hx4, ax4⟩ := rg_add 0 240 ex4 hx3 ha_d (by decide)
  replace ax4 : x4.toInt = x3.toInt + a_d.toInt := ax4
  refine lv_iload hx hb dX5_move_21 (lv_at hl 5 rfl) ?_
  refine r_copyl X hT hS hl.1 64 64 rfl rfl (by decide) (by decide) gm_1327 gm_656 gm_655 gm_123 hx2 hx4 ha_e (by decide) (by have := ax2; have := ax1; have := hs1; have := ha_a.2; have := ha_c.2; omega) (by have := ax4; have := ax3; have := hs2; have := ha_a.2; have := ha_c.2; omega) (Nat.le_of_ble_eq_true rfl) (by decide +kernel) dX5_move_23 (fun H locs g5 eg5 hT hS => ?_)
  have hF5 := Fr_cpyl hF eg5 (by decide)
  exact hret _ _ _ _ _ _ dX5_move_26 hT hS ⟨hR, hF5⟩
set_option maxRecDepth 100000 in
set_option maxHeartbeats 4000000 in
theorem m_X8_paste {l : Launch} {D : va_G} {h : Nat → Nat} {cz : Nat → ClassId} {z : EZ} {i : Nat → Nat → Int32} {g : Nat → Nat → Int64} (hR : Rg rA i) (a_a : Int32) (a_b : Int32) (a_c : Int32) (a_d : Int32) (a_e : Int32) : DtI l yX8_paste cX8_paste 6 (some .int) ({ frames := 2, cells := 0, slots := 0, locals := 65 } : Room) D h cz z i g [.ref (h 0), .int a_a, .int a_b, .int a_c, .int a_d, .int a_e] (fun r u => (Rg rA u.1 ∧ Fr [] [64] i g u ∧ r = 0 ∧ ((0 ≤ a_a.toInt ∧ a_a.toInt ≤ 3) ∧ (0 ≤ a_c.toInt ∧ a_c.toInt ≤ 3) ∧ ¬ (i 62 a_a.toNatClampNeg).toInt = -1 ∧ ¬ (i 62 a_c.toNatClampNeg).toInt = -1 ∧ (i 62 a_a.toNatClampNeg).toInt = (i 62 a_c.toNatClampNeg).toInt ∧ (0 ≤ a_b.toInt ∧ 0 ≤ a_d.toInt ∧ 0 ≤ a_e.toInt ∧ a_b.toInt + a_e.toInt ≤ (i 63 a_a.toNatClampNeg).toInt ∧ a_d.toInt + a_e.toInt ≤ (i 63 a_c.toNatClampNeg).toInt))) ∨ (Rg rA u.1 ∧ Fr [] [64] i g u ∧ r = (-7) ∧ ((0 ≤ a_a.toInt ∧ a_a.toInt ≤ 3) ∧ (0 ≤ a_c.toInt ∧ a_c.toInt ≤ 3) ∧ ¬ (i 62 a_a.toNatClampNeg).toInt = -1 ∧ ¬ (i 62 a_c.toNatClampNeg).toInt = -1 ∧ (i 62 a_a.toNatClampNeg).toInt = (i 62 a_c.toNatClampNeg).toInt ∧ ¬ (0 ≤ a_b.toInt ∧ 0 ≤ a_d.toInt ∧ 0 ≤ a_e.toInt ∧ a_b.toInt + a_e.toInt ≤ (i 63 a_a.toNatClampNeg).toInt ∧ a_d.toInt + a_e.toInt ≤ (i 63 a_c.toNatClampNeg).toInt))) ∨ (Rg rA u.1 ∧ Fr [] [64] i g u ∧ r = (-8) ∧ ((0 ≤ a_a.toInt ∧ a_a.toInt ≤ 3) ∧ (0 ≤ a_c.toInt ∧ a_c.toInt ≤ 3) ∧ ¬ (i 62 a_a.toNatClampNeg).toInt = -1 ∧ ¬ (i 62 a_c.toNatClampNeg).toInt = -1 ∧ ¬ (i 62 a_a.toNatClampNeg).toInt = (i 62 a_c.toNatClampNeg).toInt)) ∨ (Rg rA u.1 ∧ Fr [] [64] i g u ∧ r = (-6) ∧ ((0 ≤ a_a.toInt ∧ a_a.toInt ≤ 3) ∧ (0 ≤ a_c.toInt ∧ a_c.toInt ≤ 3) ∧ ((i 62 a_a.toNatClampNeg).toInt = -1 ∨ (i 62 a_c.toNatClampNeg).toInt = -1))) ∨ (Rg rA u.1 ∧ Fr [] [64] i g u ∧ r = (-2) ∧ ((a_a.toInt < 0 ∨ 3 < a_a.toInt) ∨ (a_c.toInt < 0 ∨ 3 < a_c.toInt)))) := by
  refine e_I pn_X8_paste (Nat.le_of_ble_eq_true rfl) ?_
  intro p e s m args below meth c ls Q X Y hret hT hl hS
  have hx := X.1
  have hb := X.2.1
  have hl : lv_has ls 6 [(0, .ref (h 0)), (1, .int a_a), (2, .int a_b), (3, .int a_c), (4, .int a_d), (5, .int a_e)] := hl
  have hF : Fr [] [64] i g (i, g) := Fr_rf _ _ _ _
  refine lv_aload_n hx hb dX8_paste_0 rfl (lv_at hl 0 rfl) ?_
  refine r_getr X hT 0 6 61 fk_8_46 rfl rfl (by decide) dX8_paste_1 ?_
  refine lv_iload_n hx hb dX8_paste_4 rfl (lv_at hl 1 rfl) ?_
  refine e_Vi (As := [.int a_a]) (rest := []) X Y hT hS (m_X5_isSlot hR a_a) mk_X5_isSlot gm_1056 rfl rfl (by decide) hd_X5_isSlot ⟨rfl, rfl⟩ ⟨Nat.le_of_ble_eq_true rfl, Nat.le_of_ble_eq_true rfl⟩ hl.1 rfl (Nat.le_of_ble_eq_true rfl) dX8_paste_5 ⟨Nat.zero_le _, Nat.zero_le _⟩ (fun r1 i1 g1 H locs hq hT hS => ?_)
  rcases hq with hq | hq
  ·
    obtain ⟨eh1, rfl, hf1_0⟩ := hq
    rw [(Prod.mk.inj eh1).1, (Prod.mk.inj eh1).2] at hT
    have h2 : rg 0 3 a_a := ⟨by have := (rg_top a_a).1; have := hf1_0.1; omega, by have := (rg_top a_a).2; have := hf1_0.2; omega⟩
    refine lv_if_eq (tgt := 22) hx hb dX8_paste_8 (by decide) (fun c3 => (x_eq (rg_k (by decide) : rg 1 1 1) (rg_k (by decide) : rg 0 0 0) (i_eq c3) (by decide)).elim) (fun c3 => ?_)
    refine lv_aload_n hx hb dX8_paste_11 rfl (lv_at hl 0 rfl) ?_
    refine r_getr X hT 0 6 61 fk_8_46 rfl rfl (by decide) dX8_paste_12 ?_
    refine lv_iload_n hx hb dX8_paste_15 rfl (lv_at hl 3 rfl) ?_
    refine e_Vi (As := [.int a_c]) (rest := []) X Y hT hS (m_X5_isSlot hR a_c) mk_X5_isSlot gm_1056 rfl rfl (by decide) hd_X5_isSlot ⟨rfl, rfl⟩ ⟨Nat.le_of_ble_eq_true rfl, Nat.le_of_ble_eq_true rfl⟩ hl.1 rfl (Nat.le_of_ble_eq_true rfl) dX8_paste_16 ⟨Nat.zero_le _, Nat.zero_le _⟩ (fun r4 i4 g4 H locs hq hT hS => ?_)
    rcases hq with hq | hq
    ·
      obtain ⟨eh4, rfl, hf4_0⟩ := hq
      rw [(Prod.mk.inj eh4).1, (Prod.mk.inj eh4).2] at hT
      have h5 : rg 0 3 a_c := ⟨by have := (rg_top a_c).1; have := hf4_0.1; omega, by have := (rg_top a_c).2; have := hf4_0.2; omega⟩
      refine lv_if_ne (tgt := 25) hx hb dX8_paste_19 (by decide) (fun c6 => ?_) (fun c6 => (x_eq (rg_k (by decide) : rg 1 1 1) (rg_k (by decide) : rg 0 0 0) (i_eq c6) (by decide)).elim)
      refine lv_aload_n hx hb dX8_paste_25 rfl (lv_at hl 0 rfl) ?_
      refine r_getr X hT 0 6 61 fk_8_46 rfl rfl (by decide) dX8_paste_26 ?_
      refine lv_iload_n hx hb dX8_paste_29 rfl (lv_at hl 1 rfl) ?_
      refine e_Vi (As := [.int a_a]) (rest := []) X Y hT hS (m_X5_isBare hR a_a h2) mk_X5_isBare gm_1060 rfl rfl (by decide) hd_X5_isBare ⟨rfl, rfl⟩ ⟨Nat.le_of_ble_eq_true rfl, Nat.le_of_ble_eq_true rfl⟩ hl.1 rfl (Nat.le_of_ble_eq_true rfl) dX8_paste_30 ⟨Nat.zero_le _, Nat.zero_le _⟩ (fun r7 i7 g7 H locs hq hT hS => ?_)
      rcases hq with hq | hq
      ·
        obtain ⟨eh7, rfl, hf7_0⟩ := hq
        rw [(Prod.mk.inj eh7).1, (Prod.mk.inj eh7).2] at hT
        refine lv_if_ne (tgt := 47) hx hb dX8_paste_33 (by decide) (fun c8 => ?_) (fun c8 => (x_eq (rg_k (by decide) : rg 1 1 1) (rg_k (by decide) : rg 0 0 0) (i_eq c8) (by decide)).elim)
        refine lv_bipush (v := (-6)) hx hb dX8_paste_47 (by decide) ?_
        exact hret (-6) _ _ _ _ _ _ dX8_paste_49 hT hS (Or.inr (Or.inr (Or.inr (Or.inl ⟨hR, hF, rfl, (by have := h2.1; have := h2.2; have := h5.1; have := h5.2; omega)⟩))))
      ·
        obtain ⟨eh7, rfl, hf7_0⟩ := hq
        rw [(Prod.mk.inj eh7).1, (Prod.mk.inj eh7).2] at hT
        refine lv_if_ne (tgt := 47) hx hb dX8_paste_33 (by decide) (fun c9 => (x_ne (rg_k (by decide) : rg 0 0 0) (rg_k (by decide) : rg 0 0 0) (i_ne c9) (by decide)).elim) (fun c9 => ?_)
        refine lv_aload_n hx hb dX8_paste_36 rfl (lv_at hl 0 rfl) ?_
        refine r_getr X hT 0 6 61 fk_8_46 rfl rfl (by decide) dX8_paste_37 ?_
        refine lv_iload_n hx hb dX8_paste_40 rfl (lv_at hl 3 rfl) ?_
        refine e_Vi (As := [.int a_c]) (rest := []) X Y hT hS (m_X5_isBare hR a_c h5) mk_X5_isBare gm_1060 rfl rfl (by decide) hd_X5_isBare ⟨rfl, rfl⟩ ⟨Nat.le_of_ble_eq_true rfl, Nat.le_of_ble_eq_true rfl⟩ hl.1 rfl (Nat.le_of_ble_eq_true rfl) dX8_paste_41 ⟨Nat.zero_le _, Nat.zero_le _⟩ (fun r10 i10 g10 H locs hq hT hS => ?_)
        rcases hq with hq | hq
        ·
          obtain ⟨eh10, rfl, hf10_0⟩ := hq
          rw [(Prod.mk.inj eh10).1, (Prod.mk.inj eh10).2] at hT
          refine lv_if_eq (tgt := 50) hx hb dX8_paste_44 (by decide) (fun c11 => (x_eq (rg_k (by decide) : rg 1 1 1) (rg_k (by decide) : rg 0 0 0) (i_eq c11) (by decide)).elim) (fun c11 => ?_)
          refine lv_bipush (v := (-6)) hx hb dX8_paste_47 (by decide) ?_
          exact hret (-6) _ _ _ _ _ _ dX8_paste_49 hT hS (Or.inr (Or.inr (Or.inr (Or.inl ⟨hR, hF, rfl, (by have := h2.1; have := h2.2; have := h5.1; have := h5.2; omega)⟩))))
        ·
          obtain ⟨eh10, rfl, hf10_0⟩ := hq
          rw [(Prod.mk.inj eh10).1, (Prod.mk.inj eh10).2] at hT
          refine lv_if_eq (tgt := 50) hx hb dX8_paste_44 (by decide) (fun c12 => ?_) (fun c12 => (x_ne (rg_k (by decide) : rg 0 0 0) (rg_k (by decide) : rg 0 0 0) (i_ne c12) (by decide)).elim)
          refine lv_aload_n hx hb dX8_paste_50 rfl (lv_at hl 0 rfl) ?_
          refine r_getr X hT 0 6 61 fk_8_46 rfl rfl (by decide) dX8_paste_51 ?_
          refine lv_iload_n hx hb dX8_paste_54 rfl (lv_at hl 1 rfl) ?_
          refine lv_iload_n hx hb dX8_paste_55 rfl (lv_at hl 3 rfl) ?_
          refine e_Vi (As := [.int a_a, .int a_c]) (rest := []) X Y hT hS (m_X5_areOfOneWidth hR a_a a_c h2 h5) mk_X5_areOfOneWidth gm_1319 rfl rfl (by decide) hd_X5_areOfOneWidth ⟨rfl, rfl⟩ ⟨Nat.le_of_ble_eq_true rfl, Nat.le_of_ble_eq_true rfl⟩ hl.1 rfl (Nat.le_of_ble_eq_true rfl) dX8_paste_56 ⟨Nat.zero_le _, Nat.zero_le _⟩ (fun r13 i13 g13 H locs hq hT hS => ?_)
          rcases hq with hq | hq
          ·
            obtain ⟨eh13, rfl, hf13_0⟩ := hq
            rw [(Prod.mk.inj eh13).1, (Prod.mk.inj eh13).2] at hT
            refine lv_if_ne (tgt := 65) hx hb dX8_paste_59 (by decide) (fun c14 => ?_) (fun c14 => (x_eq (rg_k (by decide) : rg 1 1 1) (rg_k (by decide) : rg 0 0 0) (i_eq c14) (by decide)).elim)
            refine lv_aload_n hx hb dX8_paste_65 rfl (lv_at hl 0 rfl) ?_
            refine r_getr X hT 0 6 61 fk_8_46 rfl rfl (by decide) dX8_paste_66 ?_
            refine lv_iload_n hx hb dX8_paste_69 rfl (lv_at hl 1 rfl) ?_
            refine lv_iload_n hx hb dX8_paste_70 rfl (lv_at hl 2 rfl) ?_
            refine lv_iload hx hb dX8_paste_71 (lv_at hl 5 rfl) ?_
            refine e_Vi (As := [.int a_a, .int a_b, .int a_e]) (rest := []) X Y hT hS (m_X5_covers hR a_a a_b a_e h2) mk_X5_covers gm_1304 rfl rfl (by decide) hd_X5_covers ⟨rfl, rfl⟩ ⟨Nat.le_of_ble_eq_true rfl, Nat.le_of_ble_eq_true rfl⟩ hl.1 rfl (Nat.le_of_ble_eq_true rfl) dX8_paste_73 ⟨Nat.zero_le _, Nat.zero_le _⟩ (fun r15 i15 g15 H locs hq hT hS => ?_)
            rcases hq with hq | hq
            ·
              obtain ⟨eh15, rfl, hf15_0⟩ := hq
              rw [(Prod.mk.inj eh15).1, (Prod.mk.inj eh15).2] at hT
              replace hf15_0 : (0 : Int) ≤ a_b.toInt ∧ (0 : Int) ≤ a_e.toInt ∧ (a_b.toInt : Int) + a_e.toInt ≤ (i 63 a_a.toNatClampNeg).toInt := hf15_0
              have h16 : rg 0 60 a_b := ⟨by have := (Rg_at hR 63 a_a.toNatClampNeg 0 60 (v_lt (v_in h2 (by decide) : vp_in a_a 4)) rfl).2; have := (rg_top a_b).1; have := (rg_top a_e).1; omega, by have := (Rg_at hR 63 a_a.toNatClampNeg 0 60 (v_lt (v_in h2 (by decide) : vp_in a_a 4)) rfl).2; have := (rg_top a_b).1; have := (rg_top a_e).1; omega⟩
              have h17 : rg 0 60 a_e := ⟨by have := (Rg_at hR 63 a_a.toNatClampNeg 0 60 (v_lt (v_in h2 (by decide) : vp_in a_a 4)) rfl).2; have := (rg_top a_b).1; have := (rg_top a_e).1; omega, by have := (Rg_at hR 63 a_a.toNatClampNeg 0 60 (v_lt (v_in h2 (by decide) : vp_in a_a 4)) rfl).2; have := (rg_top a_b).1; have := (rg_top a_e).1; omega⟩
              refine lv_if_eq (tgt := 94) hx hb dX8_paste_76 (by decide) (fun c18 => (x_eq (rg_k (by decide) : rg 1 1 1) (rg_k (by decide) : rg 0 0 0) (i_eq c18) (by decide)).elim) (fun c18 => ?_)
              refine lv_aload_n hx hb dX8_paste_79 rfl (lv_at hl 0 rfl) ?_
              refine r_getr X hT 0 6 61 fk_8_46 rfl rfl (by decide) dX8_paste_80 ?_
              refine lv_iload_n hx hb dX8_paste_83 rfl (lv_at hl 3 rfl) ?_
              refine lv_iload hx hb dX8_paste_84 (lv_at hl 4 rfl) ?_
              refine lv_iload hx hb dX8_paste_86 (lv_at hl 5 rfl) ?_
              refine e_Vi (As := [.int a_c, .int a_d, .int a_e]) (rest := []) X Y hT hS (m_X5_covers hR a_c a_d a_e h5) mk_X5_covers gm_1304 rfl rfl (by decide) hd_X5_covers ⟨rfl, rfl⟩ ⟨Nat.le_of_ble_eq_true rfl, Nat.le_of_ble_eq_true rfl⟩ hl.1 rfl (Nat.le_of_ble_eq_true rfl) dX8_paste_88 ⟨Nat.zero_le _, Nat.zero_le _⟩ (fun r19 i19 g19 H locs hq hT hS => ?_)
              rcases hq with hq | hq
              ·
                obtain ⟨eh19, rfl, hf19_0⟩ := hq
                rw [(Prod.mk.inj eh19).1, (Prod.mk.inj eh19).2] at hT
                replace hf19_0 : (0 : Int) ≤ a_d.toInt ∧ (0 : Int) ≤ a_e.toInt ∧ (a_d.toInt : Int) + a_e.toInt ≤ (i 63 a_c.toNatClampNeg).toInt := hf19_0
                have h20 : rg 0 60 a_d := ⟨by have := (Rg_at hR 63 a_c.toNatClampNeg 0 60 (v_lt (v_in h5 (by decide) : vp_in a_c 4)) rfl).2; have := (rg_top a_d).1; have := h17.1; omega, by have := (Rg_at hR 63 a_c.toNatClampNeg 0 60 (v_lt (v_in h5 (by decide) : vp_in a_c 4)) rfl).2; have := (rg_top a_d).1; have := h17.1; omega⟩
                have h21 : rg 0 60 a_e := ⟨by have := (Rg_at hR 63 a_c.toNatClampNeg 0 60 (v_lt (v_in h5 (by decide) : vp_in a_c 4)) rfl).2; have := (rg_top a_d).1; have := h17.1; omega, by have := (Rg_at hR 63 a_c.toNatClampNeg 0 60 (v_lt (v_in h5 (by decide) : vp_in a_c 4)) rfl).2; have := (rg_top a_d).1; have := h17.1; omega⟩
                refine lv_if_ne (tgt := 97) hx hb dX8_paste_91 (by decide) (fun c22 => ?_) (fun c22 => (x_eq (rg_k (by decide) : rg 1 1 1) (rg_k (by decide) : rg 0 0 0) (i_eq c22) (by decide)).elim)
                refine lv_aload_n hx hb dX8_paste_97 rfl (lv_at hl 0 rfl) ?_
                refine r_getr X hT 0 6 61 fk_8_46 rfl rfl (by decide) dX8_paste_98 ?_
                refine lv_iload_n hx hb dX8_paste_101 rfl (lv_at hl 1 rfl) ?_
                refine lv_iload_n hx hb dX8_paste_102 rfl (lv_at hl 2 rfl) ?_
                refine lv_iload_n hx hb dX8_paste_103 rfl (lv_at hl 3 rfl) ?_
                refine lv_iload hx hb dX8_paste_104 (lv_at hl 4 rfl) ?_
                refine lv_iload hx hb dX8_paste_106 (lv_at hl 5 rfl) ?_
                refine e_Vv (As := [.int a_a, .int a_b, .int a_c, .int a_d, .int a_e]) (rest := []) X Y hT hS (m_X5_move hR a_a a_b a_c a_d a_e h2 h16 h5 h20 h21 (by have := hf15_0; have := (Rg_at hR 63 a_a.toNatClampNeg 0 60 (v_lt (v_in h2 (by decide) : vp_in a_a 4)) rfl).2; omega) (by have := hf19_0; have := (Rg_at hR 63 a_c.toNatClampNeg 0 60 (v_lt (v_in h5 (by decide) : vp_in a_c 4)) rfl).2; omega)) mk_X5_move gm_1323 rfl rfl (by decide) hd_X5_move ⟨rfl, rfl⟩ ⟨Nat.le_of_ble_eq_true rfl, Nat.le_of_ble_eq_true rfl⟩ hl.1 rfl (Nat.le_of_ble_eq_true rfl) dX8_paste_108 ⟨Nat.zero_le _, Nat.zero_le _⟩ (fun i23 g23 H locs hq hT hS => ?_)
                obtain ⟨hR23, hf23⟩ := hq
                have hF23 := Fr_tr hF hf23 (by decide)
                refine lv_iconst (v := 0) hx hb dX8_paste_111 (by decide) ?_
                exact hret 0 _ _ _ _ _ _ dX8_paste_112 hT hS (Or.inl ⟨hR23, hF23, rfl, (by have := h2.1; have := h2.2; have := h5.1; have := h5.2; have := h16.1; have := h16.2; have := h20.1; have := h20.2; have := h21.1; have := h21.2; omega)⟩)
              ·
                obtain ⟨eh19, rfl, hf19_0⟩ := hq
                rw [(Prod.mk.inj eh19).1, (Prod.mk.inj eh19).2] at hT
                replace hf19_0 : ¬ ((0 : Int) ≤ a_d.toInt ∧ (0 : Int) ≤ a_e.toInt ∧ (a_d.toInt : Int) + a_e.toInt ≤ (i 63 a_c.toNatClampNeg).toInt) := hf19_0
                refine lv_if_ne (tgt := 97) hx hb dX8_paste_91 (by decide) (fun c24 => (x_ne (rg_k (by decide) : rg 0 0 0) (rg_k (by decide) : rg 0 0 0) (i_ne c24) (by decide)).elim) (fun c24 => ?_)
                refine lv_bipush (v := (-7)) hx hb dX8_paste_94 (by decide) ?_
                exact hret (-7) _ _ _ _ _ _ dX8_paste_96 hT hS (Or.inr (Or.inl ⟨hR, hF, rfl, (by have := h2.1; have := h2.2; have := h5.1; have := h5.2; have := h16.1; have := h16.2; have := h17.1; have := h17.2; omega)⟩))
            ·
              obtain ⟨eh15, rfl, hf15_0⟩ := hq
              rw [(Prod.mk.inj eh15).1, (Prod.mk.inj eh15).2] at hT
              replace hf15_0 : ¬ ((0 : Int) ≤ a_b.toInt ∧ (0 : Int) ≤ a_e.toInt ∧ (a_b.toInt : Int) + a_e.toInt ≤ (i 63 a_a.toNatClampNeg).toInt) := hf15_0
              refine lv_if_eq (tgt := 94) hx hb dX8_paste_76 (by decide) (fun c25 => ?_) (fun c25 => (x_ne (rg_k (by decide) : rg 0 0 0) (rg_k (by decide) : rg 0 0 0) (i_ne c25) (by decide)).elim)
              refine lv_bipush (v := (-7)) hx hb dX8_paste_94 (by decide) ?_
              exact hret (-7) _ _ _ _ _ _ dX8_paste_96 hT hS (Or.inr (Or.inl ⟨hR, hF, rfl, (by have := h2.1; have := h2.2; have := h5.1; have := h5.2; omega)⟩))
          ·
            obtain ⟨eh13, rfl, hf13_0⟩ := hq
            rw [(Prod.mk.inj eh13).1, (Prod.mk.inj eh13).2] at hT
            refine lv_if_ne (tgt := 65) hx hb dX8_paste_59 (by decide) (fun c26 => (x_ne (rg_k (by decide) : rg 0 0 0) (rg_k (by decide) : rg 0 0 0) (i_ne c26) (by decide)).elim) (fun c26 => ?_)
            refine lv_bipush (v := (-8)) hx hb dX8_paste_62 (by decide) ?_
            exact hret (-8) _ _ _ _ _ _ dX8_paste_64 hT hS (Or.inr (Or.inr (Or.inl ⟨hR, hF, rfl, (by have := h2.1; have := h2.2; have := h5.1; have := h5.2; omega)⟩)))
    ·
      obtain ⟨eh4, rfl, hf4_0⟩ := hq
      rw [(Prod.mk.inj eh4).1, (Prod.mk.inj eh4).2] at hT
      refine lv_if_ne (tgt := 25) hx hb dX8_paste_19 (by decide) (fun c27 => (x_ne (rg_k (by decide) : rg 0 0 0) (rg_k (by decide) : rg 0 0 0) (i_ne c27) (by decide)).elim) (fun c27 => ?_)
      refine lv_bipush (v := (-2)) hx hb dX8_paste_22 (by decide) ?_
      exact hret (-2) _ _ _ _ _ _ dX8_paste_24 hT hS (Or.inr (Or.inr (Or.inr (Or.inr ⟨hR, hF, rfl, (by have := h2.1; have := h2.2; omega)⟩))))
  ·
    obtain ⟨eh1, rfl, hf1_0⟩ := hq
    rw [(Prod.mk.inj eh1).1, (Prod.mk.inj eh1).2] at hT
    refine lv_if_eq (tgt := 22) hx hb dX8_paste_8 (by decide) (fun c28 => ?_) (fun c28 => (x_ne (rg_k (by decide) : rg 0 0 0) (rg_k (by decide) : rg 0 0 0) (i_ne c28) (by decide)).elim)
    refine lv_bipush (v := (-2)) hx hb dX8_paste_22 (by decide) ?_
    exact hret (-2) _ _ _ _ _ _ dX8_paste_24 hT hS (Or.inr (Or.inr (Or.inr (Or.inr ⟨hR, hF, rfl, (by omega)⟩))))
set_option maxRecDepth 100000 in
set_option maxHeartbeats 4000000 in
theorem m_X9_four {l : Launch} {D : va_G} {h : Nat → Nat} {cz : Nat → ClassId} {z : EZ} {i : Nat → Nat → Int32} {g : Nat → Nat → Int64} (hR : Rg rA i) (a_a : Int32) (hs96_6 : rg 0 696 (i 96 6)) : DtV l yX9_four cX9_four 3 none ({ frames := 0, cells := 0, slots := 0, locals := 0 } : Room) D h cz z i g [.ref (h 96), .int a_a] (fun u => Rg rA u.1 ∧ Fr [96, 101] [] i g u ∧ ((u.1 96 6).toInt = (i 96 6).toInt + 4)) := by
  refine e_V pn_X9_four (Nat.le_of_ble_eq_true rfl) ?_
  intro p e s m args below meth c ls Q X Y hret hT hl hS
  have hx := X.1
  have hb := X.2.1
  have hl : lv_has ls 3 [(0, .ref (h 96)), (1, .int a_a)] := hl
  have hF : Fr [96, 101] [] i g (i, g) := Fr_rf _ _ _ _
  refine lv_bipush (v := 24) hx hb dX9_four_0 (by decide) ?_
  refine lv_istore_n (lv' := [(2, .int 24), (0, .ref (h 96)), (1, .int a_a)]) hx hb dX9_four_2 rfl hl (by decide) rfl (fun ls hl => ?_)
  refine lv_iload_n hx hb dX9_four_3 rfl (lv_at hl 0 rfl) ?_
  refine lv_if_lt (tgt := 36) hx hb dX9_four_4 (by decide) (fun c1 => (x_lt (rg_k (by decide) : rg 24 24 24) (rg_k (by decide) : rg 0 0 0) (i_lt c1) (by decide)).elim) (fun c1 => ?_)
  refine lv_aload_n hx hb dX9_four_7 rfl (lv_at hl 1 rfl) ?_
  refine r_getr X hT 96 5 101 fk_9_23 rfl rfl (by decide) dX9_four_8 ?_
  refine lv_aload_n hx hb dX9_four_11 rfl (lv_at hl 1 rfl) ?_
  refine r_geti X hT 96 6 fk_9_100 rfl rfl (by decide) dX9_four_12 ?_
  refine lv_iload_n hx hb dX9_four_15 rfl (lv_at hl 2 rfl) ?_
  refine lv_iload_n hx hb dX9_four_16 rfl (lv_at hl 0 rfl) ?_
  refine q_ishr hx hb dX9_four_17 (fun x2 ex2 => ?_)
  refine q_i2b hx hb dX9_four_18 (fun x3 ex3 => ?_)
  refine r_bast X hT hS 101 rfl (by decide) (v_in hs96_6 (by decide)) dX9_four_19 (fun H locs i4 ei4 hT hS => ?_)
  have hR4 := Rg_put hR ei4 (-128) 127 rfl (rg_nb x3) (by decide)
  have hF4 := Fr_puti hF ei4 (by decide)
  refine lv_aload_n hx hb dX9_four_20 rfl (lv_at hl 1 rfl) ?_
  refine lv_dup hx hb dX9_four_21 rfl ?_
  refine r_geti X hT 96 6 fk_9_100 rfl rfl (by decide) dX9_four_22 ?_
  have e5 : (i4 96 6) = (i 96 6) := (z_j ei4 rfl (by decide))
  have h6 : rg 0 696 (i4 96 6) := rg_of e5 hs96_6
  refine lv_iconst (v := 1) hx hb dX9_four_25 (by decide) ?_
  refine q_iadd hx hb dX9_four_26 (fun x7 ex7 => ?_)
  obtain ⟨hx7, ax7⟩ := rg_add 1 697 ex7 h6 (rg_k (by decide) : rg 1 1 1) (by decide)
  replace ax7 : x7.toInt = (i4 96 6).toInt + 1 := ax7
  refine r_puti X hT hS 96 6 pk_9_100 rfl rfl rfl rfl (by decide) dX9_four_27 (fun H locs i8 ei8 hT hS => ?_)
  have hR8 := Rg_put hR4 ei8 0 700 rfl hx7 (by decide)
  have hF8 := Fr_puti hF4 ei8 (by decide)
  obtain ⟨x9, ex9⟩ : ∃ y : Int32, y = 24 + (-8) := ⟨_, rfl⟩
  refine lv_iinc (v := x9) (lv' := [(2, .int x9), (0, .ref (h 96)), (1, .int a_a)]) hx hb dX9_four_30 hl (k := 0) rfl (by rw [ex9]; rfl) (by decide) rfl (fun ls hl => ?_)
  obtain ⟨hx9, ax9⟩ := rg_add 16 16 ex9 (rg_k (by decide) : rg 24 24 24) (rg_k (by decide) : rg (-8) (-8) (-8)) (by decide)
  replace ax9 : x9.toInt = 24 + (-8) := ax9
  refine lv_goto (tgt := 3) hx hb dX9_four_33 (by decide) ?_
  refine lv_iload_n hx hb dX9_four_3 rfl (lv_at hl 0 rfl) ?_
  refine lv_if_lt (tgt := 36) hx hb dX9_four_4 (by decide) (fun c10 => (x_lt hx9 (rg_k (by decide) : rg 0 0 0) (i_lt c10) (by decide)).elim) (fun c10 => ?_)
  have q10 : 0 ≤ x9.toInt := i_nlt c10
  refine lv_aload_n hx hb dX9_four_7 rfl (lv_at hl 1 rfl) ?_
  refine r_getr X hT 96 5 101 fk_9_23 rfl rfl (by decide) dX9_four_8 ?_
  refine lv_aload_n hx hb dX9_four_11 rfl (lv_at hl 1 rfl) ?_
  refine r_geti X hT 96 6 fk_9_100 rfl rfl (by decide) dX9_four_12 ?_
  have e11 : (i8 96 6) = x7 := (z_s ei8)
  have h12 : rg 1 697 (i8 96 6) := rg_of e11 hx7
  refine lv_iload_n hx hb dX9_four_15 rfl (lv_at hl 2 rfl) ?_
  refine lv_iload_n hx hb dX9_four_16 rfl (lv_at hl 0 rfl) ?_
  refine q_ishr hx hb dX9_four_17 (fun x13 ex13 => ?_)
  refine q_i2b hx hb dX9_four_18 (fun x14 ex14 => ?_)
  refine r_bast X hT hS 101 rfl (by decide) (v_in h12 (by decide)) dX9_four_19 (fun H locs i15 ei15 hT hS => ?_)
  have hR15 := Rg_put hR8 ei15 (-128) 127 rfl (rg_nb x14) (by decide)
  have hF15 := Fr_puti hF8 ei15 (by decide)
  refine lv_aload_n hx hb dX9_four_20 rfl (lv_at hl 1 rfl) ?_
  refine lv_dup hx hb dX9_four_21 rfl ?_
  refine r_geti X hT 96 6 fk_9_100 rfl rfl (by decide) dX9_four_22 ?_
  have e16 : (i15 96 6) = x7 := (z_j ei15 (z_s ei8) (by decide))
  have h17 : rg 1 697 (i15 96 6) := rg_of e16 hx7
  refine lv_iconst (v := 1) hx hb dX9_four_25 (by decide) ?_
  refine q_iadd hx hb dX9_four_26 (fun x18 ex18 => ?_)
  obtain ⟨hx18, ax18⟩ := rg_add 2 698 ex18 h17 (rg_k (by decide) : rg 1 1 1) (by decide)
  replace ax18 : x18.toInt = (i15 96 6).toInt + 1 := ax18
  refine r_puti X hT hS 96 6 pk_9_100 rfl rfl rfl rfl (by decide) dX9_four_27 (fun H locs i19 ei19 hT hS => ?_)
  have hR19 := Rg_put hR15 ei19 0 700 rfl hx18 (by decide)
  have hF19 := Fr_puti hF15 ei19 (by decide)
  obtain ⟨x20, ex20⟩ : ∃ y : Int32, y = x9 + (-8) := ⟨_, rfl⟩
  refine lv_iinc (v := x20) (lv' := [(2, .int x20), (0, .ref (h 96)), (1, .int a_a)]) hx hb dX9_four_30 hl (k := 0) rfl (by rw [ex20]; rfl) (by decide) rfl (fun ls hl => ?_)
  obtain ⟨hx20, ax20⟩ := rg_add 8 8 ex20 hx9 (rg_k (by decide) : rg (-8) (-8) (-8)) (by decide)
  replace ax20 : x20.toInt = x9.toInt + (-8) := ax20
  refine lv_goto (tgt := 3) hx hb dX9_four_33 (by decide) ?_
  refine lv_iload_n hx hb dX9_four_3 rfl (lv_at hl 0 rfl) ?_
  refine lv_if_lt (tgt := 36) hx hb dX9_four_4 (by decide) (fun c21 => (x_lt hx20 (rg_k (by decide) : rg 0 0 0) (i_lt c21) (by decide)).elim) (fun c21 => ?_)
  have q21 : 0 ≤ x20.toInt := i_nlt c21
  refine lv_aload_n hx hb dX9_four_7 rfl (lv_at hl 1 rfl) ?_
  refine r_getr X hT 96 5 101 fk_9_23 rfl rfl (by decide) dX9_four_8 ?_
  refine lv_aload_n hx hb dX9_four_11 rfl (lv_at hl 1 rfl) ?_
  refine r_geti X hT 96 6 fk_9_100 rfl rfl (by decide) dX9_four_12 ?_
  have e22 : (i19 96 6) = x18 := (z_s ei19)
  have h23 : rg 2 698 (i19 96 6) := rg_of e22 hx18
  refine lv_iload_n hx hb dX9_four_15 rfl (lv_at hl 2 rfl) ?_
  refine lv_iload_n hx hb dX9_four_16 rfl (lv_at hl 0 rfl) ?_
  refine q_ishr hx hb dX9_four_17 (fun x24 ex24 => ?_)
  refine q_i2b hx hb dX9_four_18 (fun x25 ex25 => ?_)
  refine r_bast X hT hS 101 rfl (by decide) (v_in h23 (by decide)) dX9_four_19 (fun H locs i26 ei26 hT hS => ?_)
  have hR26 := Rg_put hR19 ei26 (-128) 127 rfl (rg_nb x25) (by decide)
  have hF26 := Fr_puti hF19 ei26 (by decide)
  refine lv_aload_n hx hb dX9_four_20 rfl (lv_at hl 1 rfl) ?_
  refine lv_dup hx hb dX9_four_21 rfl ?_
  refine r_geti X hT 96 6 fk_9_100 rfl rfl (by decide) dX9_four_22 ?_
  have e27 : (i26 96 6) = x18 := (z_j ei26 (z_s ei19) (by decide))
  have h28 : rg 2 698 (i26 96 6) := rg_of e27 hx18
  refine lv_iconst (v := 1) hx hb dX9_four_25 (by decide) ?_
  refine q_iadd hx hb dX9_four_26 (fun x29 ex29 => ?_)
  obtain ⟨hx29, ax29⟩ := rg_add 3 699 ex29 h28 (rg_k (by decide) : rg 1 1 1) (by decide)
  replace ax29 : x29.toInt = (i26 96 6).toInt + 1 := ax29
  refine r_puti X hT hS 96 6 pk_9_100 rfl rfl rfl rfl (by decide) dX9_four_27 (fun H locs i30 ei30 hT hS => ?_)
  have hR30 := Rg_put hR26 ei30 0 700 rfl hx29 (by decide)
  have hF30 := Fr_puti hF26 ei30 (by decide)
  obtain ⟨x31, ex31⟩ : ∃ y : Int32, y = x20 + (-8) := ⟨_, rfl⟩
  refine lv_iinc (v := x31) (lv' := [(2, .int x31), (0, .ref (h 96)), (1, .int a_a)]) hx hb dX9_four_30 hl (k := 0) rfl (by rw [ex31]; rfl) (by decide) rfl (fun ls hl => ?_)
  obtain ⟨hx31, ax31⟩ := rg_add 0 0 ex31 hx20 (rg_k (by decide) : rg (-8) (-8) (-8)) (by decide)
  replace ax31 : x31.toInt = x20.toInt + (-8) := ax31
  refine lv_goto (tgt := 3) hx hb dX9_four_33 (by decide) ?_
  refine lv_iload_n hx hb dX9_four_3 rfl (lv_at hl 0 rfl) ?_
  refine lv_if_lt (tgt := 36) hx hb dX9_four_4 (by decide) (fun c32 => (x_lt hx31 (rg_k (by decide) : rg 0 0 0) (i_lt c32) (by decide)).elim) (fun c32 => ?_)
  have q32 : 0 ≤ x31.toInt := i_nlt c32
  refine lv_aload_n hx hb dX9_four_7 rfl (lv_at hl 1 rfl) ?_
  refine r_getr X hT 96 5 101 fk_9_23 rfl rfl (by decide) dX9_four_8 ?_
  refine lv_aload_n hx hb dX9_four_11 rfl (lv_at hl 1 rfl) ?_
  refine r_geti X hT 96 6 fk_9_100 rfl rfl (by decide) dX9_four_12 ?_
  have e33 : (i30 96 6) = x29 := (z_s ei30)
  have h34 : rg 3 699 (i30 96 6) := rg_of e33 hx29
  refine lv_iload_n hx hb dX9_four_15 rfl (lv_at hl 2 rfl) ?_
  refine lv_iload_n hx hb dX9_four_16 rfl (lv_at hl 0 rfl) ?_
  refine q_ishr hx hb dX9_four_17 (fun x35 ex35 => ?_)
  refine q_i2b hx hb dX9_four_18 (fun x36 ex36 => ?_)
  refine r_bast X hT hS 101 rfl (by decide) (v_in h34 (by decide)) dX9_four_19 (fun H locs i37 ei37 hT hS => ?_)
  have hR37 := Rg_put hR30 ei37 (-128) 127 rfl (rg_nb x36) (by decide)
  have hF37 := Fr_puti hF30 ei37 (by decide)
  refine lv_aload_n hx hb dX9_four_20 rfl (lv_at hl 1 rfl) ?_
  refine lv_dup hx hb dX9_four_21 rfl ?_
  refine r_geti X hT 96 6 fk_9_100 rfl rfl (by decide) dX9_four_22 ?_
  have e38 : (i37 96 6) = x29 := (z_j ei37 (z_s ei30) (by decide))
  have h39 : rg 3 699 (i37 96 6) := rg_of e38 hx29
  refine lv_iconst (v := 1) hx hb dX9_four_25 (by decide) ?_
  refine q_iadd hx hb dX9_four_26 (fun x40 ex40 => ?_)
  obtain ⟨hx40, ax40⟩ := rg_add 4 700 ex40 h39 (rg_k (by decide) : rg 1 1 1) (by decide)
  replace ax40 : x40.toInt = (i37 96 6).toInt + 1 := ax40
  refine r_puti X hT hS 96 6 pk_9_100 rfl rfl rfl rfl (by decide) dX9_four_27 (fun H locs i41 ei41 hT hS => ?_)
  have hR41 := Rg_put hR37 ei41 0 700 rfl hx40 (by decide)
  have hF41 := Fr_puti hF37 ei41 (by decide)
  obtain ⟨x42, ex42⟩ : ∃ y : Int32, y = x31 + (-8) := ⟨_, rfl⟩
  refine lv_iinc (v := x42) (lv' := [(2, .int x42), (0, .ref (h 96)), (1, .int a_a)]) hx hb dX9_four_30 hl (k := 0) rfl (by rw [ex42]; rfl) (by decide) rfl (fun ls hl => ?_)
  obtain ⟨hx42, ax42⟩ := rg_add (-8) (-8) ex42 hx31 (rg_k (by decide) : rg (-8) (-8) (-8)) (by decide)
  replace ax42 : x42.toInt = x31.toInt + (-8) := ax42
  refine lv_goto (tgt := 3) hx hb dX9_four_33 (by decide) ?_
  refine lv_iload_n hx hb dX9_four_3 rfl (lv_at hl 0 rfl) ?_
  refine lv_if_lt (tgt := 36) hx hb dX9_four_4 (by decide) (fun c43 => ?_) (fun c43 => (x_le (rg_k (by decide) : rg 0 0 0) hx42 (i_nlt c43) (by decide)).elim)
  have q43 : x42.toInt < 0 := i_lt c43
  exact hret _ _ _ _ _ _ dX9_four_36 hT hS ⟨hR41, hF41, (by show (i41 96 6).toInt = (i 96 6).toInt + 4; rw [show i41 96 6 = x40 from (z_s ei41)]; have := ax40; have := congrArg Int32.toInt e38; have := ax29; have := congrArg Int32.toInt e27; have := ax18; have := congrArg Int32.toInt e16; have := ax7; have := congrArg Int32.toInt e5; omega)⟩
set_option maxRecDepth 100000 in
set_option maxHeartbeats 4000000 in
theorem m_X9_feed {l : Launch} {D : va_G} {h : Nat → Nat} {cz : Nat → ClassId} {z : EZ} {i : Nat → Nat → Int32} {g : Nat → Nat → Int64} (hR : Rg rA i) (a_a : Int32) (a_b : Int32) (a_c : Int32) (a_d : Int32) (a_e : Int32) : DtI l yX9_feed cX9_feed 6 (some .int) ({ frames := 1, cells := 0, slots := 0, locals := 22 } : Room) D h cz z i g [.ref (h 96), .int a_a, .int a_b, .int a_c, .int a_d, .int a_e] (fun r u => Rg rA u.1 ∧ Fr [96, 101] [] i g u ∧ rg (-1) 700 r) := by
  refine e_I pn_X9_feed (Nat.le_of_ble_eq_true rfl) ?_
  intro p e s m args below meth c ls Q X Y hret hT hl hS
  have hx := X.1
  have hb := X.2.1
  have hl : lv_has ls 6 [(0, .ref (h 96)), (1, .int a_a), (2, .int a_b), (3, .int a_c), (4, .int a_d), (5, .int a_e)] := hl
  have hF : Fr [96, 101] [] i g (i, g) := Fr_rf _ _ _ _
  refine lv_aload_n hx hb dX9_feed_0 rfl (lv_at hl 0 rfl) ?_
  refine lv_iconst (v := 0) hx hb dX9_feed_1 (by decide) ?_
  refine r_puti X hT hS 96 0 pk_9_83 rfl rfl rfl rfl (by decide) dX9_feed_2 (fun H locs i1 ei1 hT hS => ?_)
  have hR1 := Rg_put hR ei1 (-2147483648) 2147483647 rfl (rg_k (by decide) : rg 0 0 0) (by decide)
  have hF1 := Fr_puti hF ei1 (by decide)
  refine lv_aload_n hx hb dX9_feed_5 rfl (lv_at hl 0 rfl) ?_
  refine r_geti X hT 96 6 fk_9_100 rfl rfl (by decide) dX9_feed_6 ?_
  refine lv_bipush (v := 20) hx hb dX9_feed_9 (by decide) ?_
  refine q_iadd hx hb dX9_feed_11 (fun x2 ex2 => ?_)
  obtain ⟨hx2, ax2⟩ := rg_add 20 720 ex2 (Rg_at hR1 96 6 0 700 (by decide) rfl) (rg_k (by decide) : rg 20 20 20) (by decide)
  replace ax2 : x2.toInt = (i1 96 6).toInt + 20 := ax2
  refine lv_sipush (v := 700) hx hb dX9_feed_12 (by decide) ?_
  refine lv_icmp_le (tgt := 20) hx hb dX9_feed_15 (by decide) (fun c3 => ?_) (fun c3 => ?_)
  ·
    have q3 : x2.toInt ≤ 700 := i_le c3
    have h4 : rg 20 700 x2 := t_lex 20 700 hx2 (rg_k (by decide) : rg 700 700 700) (i_le c3) (by decide)
    have h5 : rg 0 680 (i1 96 6) := ⟨by have := h4.1; have := (Rg_at hR1 96 6 0 700 (by decide) rfl).1; have := ax2; omega, by have := h4.2; have := (Rg_at hR1 96 6 0 700 (by decide) rfl).2; have := ax2; omega⟩
    refine lv_aload_n hx hb dX9_feed_20 rfl (lv_at hl 0 rfl) ?_
    refine lv_iload_n hx hb dX9_feed_21 rfl (lv_at hl 1 rfl) ?_
    refine e_Vv (As := [.int a_a]) (rest := []) X Y hT hS (m_X9_four hR1 a_a (rg_w h5 (by decide) : rg 0 696 (i1 96 6))) mk_X9_four gm_1514 rfl rfl (by decide) hd_X9_four ⟨rfl, rfl⟩ ⟨Nat.le_of_ble_eq_true rfl, Nat.le_of_ble_eq_true rfl⟩ hl.1 rfl (Nat.le_of_ble_eq_true rfl) dX9_feed_22 ⟨Nat.zero_le _, Nat.zero_le _⟩ (fun i6 g6 H locs hq hT hS => ?_)
    obtain ⟨hR6, hf6, hf6_0⟩ := hq
    have hF6 := Fr_tr hF1 hf6 (by decide)
    replace hf6_0 : (i6 96 6).toInt = (i1 96 6).toInt + 4 := hf6_0
    have h7 : rg 4 684 (i6 96 6) := ⟨by have := h5.1; omega, by have := h5.2; omega⟩
    refine lv_aload_n hx hb dX9_feed_25 rfl (lv_at hl 0 rfl) ?_
    refine lv_iload_n hx hb dX9_feed_26 rfl (lv_at hl 2 rfl) ?_
    refine e_Vv (As := [.int a_b]) (rest := []) X Y hT hS (m_X9_four hR6 a_b (rg_w h7 (by decide) : rg 0 696 (i6 96 6))) mk_X9_four gm_1514 rfl rfl (by decide) hd_X9_four ⟨rfl, rfl⟩ ⟨Nat.le_of_ble_eq_true rfl, Nat.le_of_ble_eq_true rfl⟩ hl.1 rfl (Nat.le_of_ble_eq_true rfl) dX9_feed_27 ⟨Nat.zero_le _, Nat.zero_le _⟩ (fun i8 g8 H locs hq hT hS => ?_)
    obtain ⟨hR8, hf8, hf8_0⟩ := hq
    have hF8 := Fr_tr hF6 hf8 (by decide)
    replace hf8_0 : (i8 96 6).toInt = (i6 96 6).toInt + 4 := hf8_0
    have h9 : rg 8 688 (i8 96 6) := ⟨by have := h7.1; omega, by have := h7.2; omega⟩
    refine lv_aload_n hx hb dX9_feed_30 rfl (lv_at hl 0 rfl) ?_
    refine lv_iload_n hx hb dX9_feed_31 rfl (lv_at hl 3 rfl) ?_
    refine e_Vv (As := [.int a_c]) (rest := []) X Y hT hS (m_X9_four hR8 a_c (rg_w h9 (by decide) : rg 0 696 (i8 96 6))) mk_X9_four gm_1514 rfl rfl (by decide) hd_X9_four ⟨rfl, rfl⟩ ⟨Nat.le_of_ble_eq_true rfl, Nat.le_of_ble_eq_true rfl⟩ hl.1 rfl (Nat.le_of_ble_eq_true rfl) dX9_feed_32 ⟨Nat.zero_le _, Nat.zero_le _⟩ (fun i10 g10 H locs hq hT hS => ?_)
    obtain ⟨hR10, hf10, hf10_0⟩ := hq
    have hF10 := Fr_tr hF8 hf10 (by decide)
    replace hf10_0 : (i10 96 6).toInt = (i8 96 6).toInt + 4 := hf10_0
    have h11 : rg 12 692 (i10 96 6) := ⟨by have := h9.1; omega, by have := h9.2; omega⟩
    refine lv_aload_n hx hb dX9_feed_35 rfl (lv_at hl 0 rfl) ?_
    refine lv_iload hx hb dX9_feed_36 (lv_at hl 4 rfl) ?_
    refine e_Vv (As := [.int a_d]) (rest := []) X Y hT hS (m_X9_four hR10 a_d (rg_w h11 (by decide) : rg 0 696 (i10 96 6))) mk_X9_four gm_1514 rfl rfl (by decide) hd_X9_four ⟨rfl, rfl⟩ ⟨Nat.le_of_ble_eq_true rfl, Nat.le_of_ble_eq_true rfl⟩ hl.1 rfl (Nat.le_of_ble_eq_true rfl) dX9_feed_38 ⟨Nat.zero_le _, Nat.zero_le _⟩ (fun i12 g12 H locs hq hT hS => ?_)
    obtain ⟨hR12, hf12, hf12_0⟩ := hq
    have hF12 := Fr_tr hF10 hf12 (by decide)
    replace hf12_0 : (i12 96 6).toInt = (i10 96 6).toInt + 4 := hf12_0
    have h13 : rg 16 696 (i12 96 6) := ⟨by have := h11.1; omega, by have := h11.2; omega⟩
    refine lv_aload_n hx hb dX9_feed_41 rfl (lv_at hl 0 rfl) ?_
    refine lv_iload hx hb dX9_feed_42 (lv_at hl 5 rfl) ?_
    refine e_Vv (As := [.int a_e]) (rest := []) X Y hT hS (m_X9_four hR12 a_e (rg_w h13 (by decide) : rg 0 696 (i12 96 6))) mk_X9_four gm_1514 rfl rfl (by decide) hd_X9_four ⟨rfl, rfl⟩ ⟨Nat.le_of_ble_eq_true rfl, Nat.le_of_ble_eq_true rfl⟩ hl.1 rfl (Nat.le_of_ble_eq_true rfl) dX9_feed_44 ⟨Nat.zero_le _, Nat.zero_le _⟩ (fun i14 g14 H locs hq hT hS => ?_)
    obtain ⟨hR14, hf14, hf14_0⟩ := hq
    have hF14 := Fr_tr hF12 hf14 (by decide)
    replace hf14_0 : (i14 96 6).toInt = (i12 96 6).toInt + 4 := hf14_0
    have h15 : rg 20 700 (i14 96 6) := ⟨by have := h13.1; omega, by have := h13.2; omega⟩
    refine lv_aload_n hx hb dX9_feed_47 rfl (lv_at hl 0 rfl) ?_
    refine r_geti X hT 96 6 fk_9_100 rfl rfl (by decide) dX9_feed_48 ?_
    exact hret (i14 96 6) _ _ _ _ _ _ dX9_feed_51 hT hS ⟨hR14, hF14, (rg_w h15 (by decide) : rg (-1) 700 (i14 96 6))⟩
  ·
    have q3 : 700 < x2.toInt := i_nle c3
    have h16 : rg 701 720 x2 := t_lty 701 720 (rg_k (by decide) : rg 700 700 700) hx2 (i_nle c3) (by decide)
    have h17 : rg 681 700 (i1 96 6) := ⟨by have := h16.1; have := (Rg_at hR1 96 6 0 700 (by decide) rfl).1; have := ax2; omega, by have := h16.2; have := (Rg_at hR1 96 6 0 700 (by decide) rfl).2; have := ax2; omega⟩
    refine lv_iconst (v := (-1)) hx hb dX9_feed_18 (by decide) ?_
    exact hret (-1) _ _ _ _ _ _ dX9_feed_19 hT hS ⟨hR1, hF1, (rg_w (rg_k (by decide) : rg (-1) (-1) (-1)) (by decide) : rg (-1) 700 (-1))⟩
set_option maxRecDepth 100000 in
set_option maxHeartbeats 4000000 in
theorem m_in {l : Launch} {D : va_G} {h : Nat → Nat} {cz : Nat → ClassId} {z : EZ} {i : Nat → Nat → Int32} {g : Nat → Nat → Int64} (a_a : Int64) (a_b : Int64) (a_c : Int64) : DtI l yX9_in cX9_in 6 (some .boolean) ({ frames := 0, cells := 0, slots := 0, locals := 0 } : Room) D h cz z i g [.long a_a, .long a_b, .long a_c] (fun r u => (u = (i, g) ∧ r = 1 ∧ (a_b.toInt ≤ a_a.toInt ∧ a_a.toInt ≤ a_c.toInt)) ∨ (u = (i, g) ∧ r = 0 ∧ (a_a.toInt < a_b.toInt ∨ a_c.toInt < a_a.toInt))) := by
  refine e_Z (fun v u hq => (hq.elim (fun hq => (Or.inr hq.2.1)) (fun hq => (Or.inl hq.2.1)))) pn_X9_in (Nat.le_of_ble_eq_true rfl) ?_
  intro p e s m args below meth c ls Q X Y hret hT hl hS
  have hx := X.1
  have hb := X.2.1
  have hl : lv_has ls 6 [(0, .long a_a), (2, .long a_b), (4, .long a_c)] := hl
  refine lv_lload_n hx hb dX9_in_0 rfl (lv_at hl 0 rfl) ?_
  refine lv_lload_n hx hb dX9_in_1 rfl (lv_at hl 1 rfl) ?_
  refine W.lcmp hx hb dX9_in_2 ?_
  refine lv_if_lt (tgt := 17) hx hb dX9_in_3 (by decide) (fun c1 => ?_) (fun c1 => ?_)
  ·
    have q1 : a_a.toInt < a_b.toInt := c_lt c1
    have h2 : rgL (-9223372036854775808) 9223372036854775806 a_a := tL_ltx (-9223372036854775808) 9223372036854775806 (rgL_top a_a) (rgL_top a_b) (c_lt c1) (by decide)
    have h3 : rgL (-9223372036854775807) 9223372036854775807 a_b := tL_lty (-9223372036854775807) 9223372036854775807 (rgL_top a_a) (rgL_top a_b) (c_lt c1) (by decide)
    refine lv_iconst (v := 0) hx hb dX9_in_17 (by decide) ?_
    exact hret 0 _ _ _ _ _ _ dX9_in_18 hT hS (Or.inr ⟨rfl, rfl, (by omega)⟩)
  ·
    have q1 : a_b.toInt ≤ a_a.toInt := c_nlt c1
    refine lv_lload_n hx hb dX9_in_6 rfl (lv_at hl 0 rfl) ?_
    refine lv_lload hx hb dX9_in_7 (lv_at hl 2 rfl) ?_
    refine W.lcmp hx hb dX9_in_9 ?_
    refine lv_if_gt (tgt := 17) hx hb dX9_in_10 (by decide) (fun c4 => ?_) (fun c4 => ?_)
    ·
      have q4 : a_c.toInt < a_a.toInt := c_gt c4
      have h5 : rgL (-9223372036854775808) 9223372036854775806 a_c := tL_ltx (-9223372036854775808) 9223372036854775806 (rgL_top a_c) (rgL_top a_a) (c_gt c4) (by decide)
      have h6 : rgL (-9223372036854775807) 9223372036854775807 a_a := tL_lty (-9223372036854775807) 9223372036854775807 (rgL_top a_c) (rgL_top a_a) (c_gt c4) (by decide)
      refine lv_iconst (v := 0) hx hb dX9_in_17 (by decide) ?_
      exact hret 0 _ _ _ _ _ _ dX9_in_18 hT hS (Or.inr ⟨rfl, rfl, (by omega)⟩)
    ·
      have q4 : a_a.toInt ≤ a_c.toInt := c_ngt c4
      refine lv_iconst (v := 1) hx hb dX9_in_13 (by decide) ?_
      refine lv_goto (tgt := 18) hx hb dX9_in_14 (by decide) ?_
      exact hret 1 _ _ _ _ _ _ dX9_in_18 hT hS (Or.inl ⟨rfl, rfl, (by omega)⟩)
set_option maxRecDepth 100000 in
set_option maxHeartbeats 4000000 in
theorem m_X9_end {l : Launch} {D : va_G} {h : Nat → Nat} {cz : Nat → ClassId} {z : EZ} {i : Nat → Nat → Int32} {g : Nat → Nat → Int64} (hR : Rg rA i) (a_a : Int32) : DtI l yX9_end cX9_end 2 (some .int) ({ frames := 1, cells := 0, slots := 0, locals := 25 } : Room) D h cz z i g [.ref (h 96), .int a_a] (fun r u => Rg rA u.1 ∧ Fr [96] [] i g u ∧ rg (-1) 700 r) := by
  refine e_I pn_X9_end (Nat.le_of_ble_eq_true rfl) ?_
  intro p e s m args below meth c ls Q X Y hret hT hl hS
  have hx := X.1
  have hb := X.2.1
  have hl : lv_has ls 2 [(0, .ref (h 96)), (1, .int a_a)] := hl
  have hF : Fr [96] [] i g (i, g) := Fr_rf _ _ _ _
  refine lv_aload_n hx hb dX9_end_0 rfl (lv_at hl 0 rfl) ?_
  refine lv_iconst (v := 0) hx hb dX9_end_1 (by decide) ?_
  refine r_puti X hT hS 96 0 pk_9_83 rfl rfl rfl rfl (by decide) dX9_end_2 (fun H locs i1 ei1 hT hS => ?_)
  have hR1 := Rg_put hR ei1 (-2147483648) 2147483647 rfl (rg_k (by decide) : rg 0 0 0) (by decide)
  have hF1 := Fr_puti hF ei1 (by decide)
  refine lv_iload_n hx hb dX9_end_5 rfl (lv_at hl 1 rfl) ?_
  refine q_i2l hx hb dX9_end_6 (fun y2 ey2 => ?_)
  obtain ⟨hy2, ay2⟩ := rg_i2l ey2 (rg_top a_a)
  refine lv_lconst (v := 0) hx hb dX9_end_7 (by decide) ?_
  refine lv_aload_n hx hb dX9_end_8 rfl (lv_at hl 0 rfl) ?_
  refine r_geti X hT 96 6 fk_9_100 rfl rfl (by decide) dX9_end_9 ?_
  refine q_i2l hx hb dX9_end_12 (fun y3 ey3 => ?_)
  obtain ⟨hy3, ay3⟩ := rg_i2l ey3 (Rg_at hR1 96 6 0 700 (by decide) rfl)
  refine e_Si (As := [.long y2, .long 0, .long y3]) (rest := []) X Y hT hS (m_in y2 (0) y3) sk_X9_in gm_1496 hd_X9_in ⟨rfl, rfl⟩ ⟨Nat.le_of_ble_eq_true rfl, Nat.le_of_ble_eq_true rfl⟩ hl.1 rfl (Nat.le_of_ble_eq_true rfl) dX9_end_13 ⟨Nat.zero_le _, Nat.zero_le _⟩ (fun r4 i4 g4 H locs hq hT hS => ?_)
  rcases hq with hq | hq
  ·
    obtain ⟨eh4, rfl, hf4_0⟩ := hq
    rw [(Prod.mk.inj eh4).1, (Prod.mk.inj eh4).2] at hT
    replace hf4_0 : 0 ≤ y2.toInt ∧ y2.toInt ≤ y3.toInt := hf4_0
    have h5 : rgL 0 700 y2 := ⟨by have := hy2.1; have := hy2.2; have := hy3.1; have := hy3.2; omega, by have := hy2.1; have := hy2.2; have := hy3.1; have := hy3.2; omega⟩
    have h6 : rg 0 700 a_a := ⟨by have := h5.1; have := (rg_top a_a).1; have := ay2; omega, by have := h5.2; have := (rg_top a_a).2; have := ay2; omega⟩
    refine lv_if_ne (tgt := 21) hx hb dX9_end_16 (by decide) (fun c7 => ?_) (fun c7 => (x_eq (rg_k (by decide) : rg 1 1 1) (rg_k (by decide) : rg 0 0 0) (i_eq c7) (by decide)).elim)
    refine lv_aload_n hx hb dX9_end_21 rfl (lv_at hl 0 rfl) ?_
    refine lv_iload_n hx hb dX9_end_22 rfl (lv_at hl 1 rfl) ?_
    refine r_puti X hT hS 96 6 pk_9_100 rfl rfl rfl rfl (by decide) dX9_end_23 (fun H locs i8 ei8 hT hS => ?_)
    have hR8 := Rg_put hR1 ei8 0 700 rfl h6 (by decide)
    have hF8 := Fr_puti hF1 ei8 (by decide)
    refine lv_iload_n hx hb dX9_end_26 rfl (lv_at hl 1 rfl) ?_
    exact hret a_a _ _ _ _ _ _ dX9_end_27 hT hS ⟨hR8, hF8, (rg_w h6 (by decide) : rg (-1) 700 a_a)⟩
  ·
    obtain ⟨eh4, rfl, hf4_0⟩ := hq
    rw [(Prod.mk.inj eh4).1, (Prod.mk.inj eh4).2] at hT
    replace hf4_0 : y2.toInt < 0 ∨ y3.toInt < y2.toInt := hf4_0
    refine lv_if_ne (tgt := 21) hx hb dX9_end_16 (by decide) (fun c9 => (x_ne (rg_k (by decide) : rg 0 0 0) (rg_k (by decide) : rg 0 0 0) (i_ne c9) (by decide)).elim) (fun c9 => ?_)
    refine lv_iconst (v := (-1)) hx hb dX9_end_19 (by decide) ?_
    exact hret (-1) _ _ _ _ _ _ dX9_end_20 hT hS ⟨hR1, hF1, (rg_w (rg_k (by decide) : rg (-1) (-1) (-1)) (by decide) : rg (-1) 700 (-1))⟩
set_option maxRecDepth 100000 in
set_option maxHeartbeats 4000000 in
theorem m_X9_tellsOf_0_0t0 {l : Launch} {D : va_G} {h : Nat → Nat} {cz : Nat → ClassId} {z : EZ} {i : Nat → Nat → Int32} {g : Nat → Nat → Int64} (hR : Rg rA i) (a_a : Int32) (a_b : Int32) (ha_a : rg 0 0 a_a) (ha_b : rg 0 0 a_b) : DtV l yX9_tellsOf cX9_tellsOf 3 none ({ frames := 0, cells := 0, slots := 0, locals := 0 } : Room) D h cz z i g [.ref (h 96), .int a_a, .int a_b] (fun u => Rg rA u.1 ∧ Fr [103] [] i g u) := by
  refine e_V pn_X9_tellsOf (Nat.le_of_ble_eq_true rfl) ?_
  intro p e s m args below meth c ls Q X Y hret hT hl hS
  have hx := X.1
  have hb := X.2.1
  have hl : lv_has ls 3 [(0, .ref (h 96)), (1, .int a_a), (2, .int a_b)] := hl
  have hF : Fr [103] [] i g (i, g) := Fr_rf _ _ _ _
  refine lv_aload_n hx hb dX9_tellsOf_0 rfl (lv_at hl 0 rfl) ?_
  refine r_getr X hT 96 17 103 fk_9_34 rfl rfl (by decide) dX9_tellsOf_1 ?_
  refine lv_bipush (v := 28) hx hb dX9_tellsOf_4 (by decide) ?_
  refine lv_iload_n hx hb dX9_tellsOf_6 rfl (lv_at hl 1 rfl) ?_
  refine q_iadd hx hb dX9_tellsOf_7 (fun x1 ex1 => ?_)
  obtain ⟨hx1, ax1⟩ := rg_add 28 28 ex1 (rg_k (by decide) : rg 28 28 28) ha_a (by decide)
  replace ax1 : x1.toInt = 28 + a_a.toInt := ax1
  refine lv_iload_n hx hb dX9_tellsOf_8 rfl (lv_at hl 2 rfl) ?_
  refine r_iastc X hT hS 103 28 rfl (by decide) (v_in hx1 (by decide)) (cl_c hx1 28 rfl (by decide)) dX9_tellsOf_9 (fun H locs i2 ei2 hT hS => ?_)
  have hR2 := Rg_put hR ei2 0 12 rfl ha_b (by decide)
  have hF2 := Fr_puti hF ei2 (by decide)
  exact hret _ _ _ _ _ _ dX9_tellsOf_10 hT hS ⟨hR2, hF2⟩
set_option maxRecDepth 100000 in
set_option maxHeartbeats 4000000 in
theorem m_X9_tellsOf_1_0t0 {l : Launch} {D : va_G} {h : Nat → Nat} {cz : Nat → ClassId} {z : EZ} {i : Nat → Nat → Int32} {g : Nat → Nat → Int64} (hR : Rg rA i) (a_a : Int32) (a_b : Int32) (ha_a : rg 1 1 a_a) (ha_b : rg 0 0 a_b) : DtV l yX9_tellsOf cX9_tellsOf 3 none ({ frames := 0, cells := 0, slots := 0, locals := 0 } : Room) D h cz z i g [.ref (h 96), .int a_a, .int a_b] (fun u => Rg rA u.1 ∧ Fr [103] [] i g u) := by
  refine e_V pn_X9_tellsOf (Nat.le_of_ble_eq_true rfl) ?_
  intro p e s m args below meth c ls Q X Y hret hT hl hS
  have hx := X.1
  have hb := X.2.1
  have hl : lv_has ls 3 [(0, .ref (h 96)), (1, .int a_a), (2, .int a_b)] := hl
  have hF : Fr [103] [] i g (i, g) := Fr_rf _ _ _ _
  refine lv_aload_n hx hb dX9_tellsOf_0 rfl (lv_at hl 0 rfl) ?_
  refine r_getr X hT 96 17 103 fk_9_34 rfl rfl (by decide) dX9_tellsOf_1 ?_
  refine lv_bipush (v := 28) hx hb dX9_tellsOf_4 (by decide) ?_
  refine lv_iload_n hx hb dX9_tellsOf_6 rfl (lv_at hl 1 rfl) ?_
  refine q_iadd hx hb dX9_tellsOf_7 (fun x1 ex1 => ?_)
  obtain ⟨hx1, ax1⟩ := rg_add 29 29 ex1 (rg_k (by decide) : rg 28 28 28) ha_a (by decide)
  replace ax1 : x1.toInt = 28 + a_a.toInt := ax1
  refine lv_iload_n hx hb dX9_tellsOf_8 rfl (lv_at hl 2 rfl) ?_
  refine r_iastc X hT hS 103 29 rfl (by decide) (v_in hx1 (by decide)) (cl_c hx1 29 rfl (by decide)) dX9_tellsOf_9 (fun H locs i2 ei2 hT hS => ?_)
  have hR2 := Rg_put hR ei2 0 3 rfl ha_b (by decide)
  have hF2 := Fr_puti hF ei2 (by decide)
  exact hret _ _ _ _ _ _ dX9_tellsOf_10 hT hS ⟨hR2, hF2⟩
set_option maxRecDepth 100000 in
set_option maxHeartbeats 4000000 in
theorem m_X9_tellsOf_2_0t0 {l : Launch} {D : va_G} {h : Nat → Nat} {cz : Nat → ClassId} {z : EZ} {i : Nat → Nat → Int32} {g : Nat → Nat → Int64} (hR : Rg rA i) (a_a : Int32) (a_b : Int32) (ha_a : rg 2 2 a_a) (ha_b : rg 0 0 a_b) : DtV l yX9_tellsOf cX9_tellsOf 3 none ({ frames := 0, cells := 0, slots := 0, locals := 0 } : Room) D h cz z i g [.ref (h 96), .int a_a, .int a_b] (fun u => Rg rA u.1 ∧ Fr [103] [] i g u) := by
  refine e_V pn_X9_tellsOf (Nat.le_of_ble_eq_true rfl) ?_
  intro p e s m args below meth c ls Q X Y hret hT hl hS
  have hx := X.1
  have hb := X.2.1
  have hl : lv_has ls 3 [(0, .ref (h 96)), (1, .int a_a), (2, .int a_b)] := hl
  have hF : Fr [103] [] i g (i, g) := Fr_rf _ _ _ _
  refine lv_aload_n hx hb dX9_tellsOf_0 rfl (lv_at hl 0 rfl) ?_
  refine r_getr X hT 96 17 103 fk_9_34 rfl rfl (by decide) dX9_tellsOf_1 ?_
  refine lv_bipush (v := 28) hx hb dX9_tellsOf_4 (by decide) ?_
  refine lv_iload_n hx hb dX9_tellsOf_6 rfl (lv_at hl 1 rfl) ?_
  refine q_iadd hx hb dX9_tellsOf_7 (fun x1 ex1 => ?_)
  obtain ⟨hx1, ax1⟩ := rg_add 30 30 ex1 (rg_k (by decide) : rg 28 28 28) ha_a (by decide)
  replace ax1 : x1.toInt = 28 + a_a.toInt := ax1
  refine lv_iload_n hx hb dX9_tellsOf_8 rfl (lv_at hl 2 rfl) ?_
  refine r_iastc X hT hS 103 30 rfl (by decide) (v_in hx1 (by decide)) (cl_c hx1 30 rfl (by decide)) dX9_tellsOf_9 (fun H locs i2 ei2 hT hS => ?_)
  have hR2 := Rg_put hR ei2 0 10 rfl ha_b (by decide)
  have hF2 := Fr_puti hF ei2 (by decide)
  exact hret _ _ _ _ _ _ dX9_tellsOf_10 hT hS ⟨hR2, hF2⟩
set_option maxRecDepth 100000 in
set_option maxHeartbeats 4000000 in
theorem m_X9_tellsOf_3_0t0 {l : Launch} {D : va_G} {h : Nat → Nat} {cz : Nat → ClassId} {z : EZ} {i : Nat → Nat → Int32} {g : Nat → Nat → Int64} (hR : Rg rA i) (a_a : Int32) (a_b : Int32) (ha_a : rg 3 3 a_a) (ha_b : rg 0 0 a_b) : DtV l yX9_tellsOf cX9_tellsOf 3 none ({ frames := 0, cells := 0, slots := 0, locals := 0 } : Room) D h cz z i g [.ref (h 96), .int a_a, .int a_b] (fun u => Rg rA u.1 ∧ Fr [103] [] i g u) := by
  refine e_V pn_X9_tellsOf (Nat.le_of_ble_eq_true rfl) ?_
  intro p e s m args below meth c ls Q X Y hret hT hl hS
  have hx := X.1
  have hb := X.2.1
  have hl : lv_has ls 3 [(0, .ref (h 96)), (1, .int a_a), (2, .int a_b)] := hl
  have hF : Fr [103] [] i g (i, g) := Fr_rf _ _ _ _
  refine lv_aload_n hx hb dX9_tellsOf_0 rfl (lv_at hl 0 rfl) ?_
  refine r_getr X hT 96 17 103 fk_9_34 rfl rfl (by decide) dX9_tellsOf_1 ?_
  refine lv_bipush (v := 28) hx hb dX9_tellsOf_4 (by decide) ?_
  refine lv_iload_n hx hb dX9_tellsOf_6 rfl (lv_at hl 1 rfl) ?_
  refine q_iadd hx hb dX9_tellsOf_7 (fun x1 ex1 => ?_)
  obtain ⟨hx1, ax1⟩ := rg_add 31 31 ex1 (rg_k (by decide) : rg 28 28 28) ha_a (by decide)
  replace ax1 : x1.toInt = 28 + a_a.toInt := ax1
  refine lv_iload_n hx hb dX9_tellsOf_8 rfl (lv_at hl 2 rfl) ?_
  refine r_iastc X hT hS 103 31 rfl (by decide) (v_in hx1 (by decide)) (cl_c hx1 31 rfl (by decide)) dX9_tellsOf_9 (fun H locs i2 ei2 hT hS => ?_)
  have hR2 := Rg_put hR ei2 0 6 rfl ha_b (by decide)
  have hF2 := Fr_puti hF ei2 (by decide)
  exact hret _ _ _ _ _ _ dX9_tellsOf_10 hT hS ⟨hR2, hF2⟩
set_option maxRecDepth 100000 in
set_option maxHeartbeats 4000000 in
theorem m_X9_tellsOf_4_0t0 {l : Launch} {D : va_G} {h : Nat → Nat} {cz : Nat → ClassId} {z : EZ} {i : Nat → Nat → Int32} {g : Nat → Nat → Int64} (hR : Rg rA i) (a_a : Int32) (a_b : Int32) (ha_a : rg 4 4 a_a) (ha_b : rg 0 0 a_b) : DtV l yX9_tellsOf cX9_tellsOf 3 none ({ frames := 0, cells := 0, slots := 0, locals := 0 } : Room) D h cz z i g [.ref (h 96), .int a_a, .int a_b] (fun u => Rg rA u.1 ∧ Fr [103] [] i g u) := by
  refine e_V pn_X9_tellsOf (Nat.le_of_ble_eq_true rfl) ?_
  intro p e s m args below meth c ls Q X Y hret hT hl hS
  have hx := X.1
  have hb := X.2.1
  have hl : lv_has ls 3 [(0, .ref (h 96)), (1, .int a_a), (2, .int a_b)] := hl
  have hF : Fr [103] [] i g (i, g) := Fr_rf _ _ _ _
  refine lv_aload_n hx hb dX9_tellsOf_0 rfl (lv_at hl 0 rfl) ?_
  refine r_getr X hT 96 17 103 fk_9_34 rfl rfl (by decide) dX9_tellsOf_1 ?_
  refine lv_bipush (v := 28) hx hb dX9_tellsOf_4 (by decide) ?_
  refine lv_iload_n hx hb dX9_tellsOf_6 rfl (lv_at hl 1 rfl) ?_
  refine q_iadd hx hb dX9_tellsOf_7 (fun x1 ex1 => ?_)
  obtain ⟨hx1, ax1⟩ := rg_add 32 32 ex1 (rg_k (by decide) : rg 28 28 28) ha_a (by decide)
  replace ax1 : x1.toInt = 28 + a_a.toInt := ax1
  refine lv_iload_n hx hb dX9_tellsOf_8 rfl (lv_at hl 2 rfl) ?_
  refine r_iastc X hT hS 103 32 rfl (by decide) (v_in hx1 (by decide)) (cl_c hx1 32 rfl (by decide)) dX9_tellsOf_9 (fun H locs i2 ei2 hT hS => ?_)
  have hR2 := Rg_put hR ei2 0 10 rfl ha_b (by decide)
  have hF2 := Fr_puti hF ei2 (by decide)
  exact hret _ _ _ _ _ _ dX9_tellsOf_10 hT hS ⟨hR2, hF2⟩
set_option maxRecDepth 100000 in
set_option maxHeartbeats 4000000 in
theorem m_X9_tellsOf_5_0t0 {l : Launch} {D : va_G} {h : Nat → Nat} {cz : Nat → ClassId} {z : EZ} {i : Nat → Nat → Int32} {g : Nat → Nat → Int64} (hR : Rg rA i) (a_a : Int32) (a_b : Int32) (ha_a : rg 5 5 a_a) (ha_b : rg 0 0 a_b) : DtV l yX9_tellsOf cX9_tellsOf 3 none ({ frames := 0, cells := 0, slots := 0, locals := 0 } : Room) D h cz z i g [.ref (h 96), .int a_a, .int a_b] (fun u => Rg rA u.1 ∧ Fr [103] [] i g u) := by
  refine e_V pn_X9_tellsOf (Nat.le_of_ble_eq_true rfl) ?_
  intro p e s m args below meth c ls Q X Y hret hT hl hS
  have hx := X.1
  have hb := X.2.1
  have hl : lv_has ls 3 [(0, .ref (h 96)), (1, .int a_a), (2, .int a_b)] := hl
  have hF : Fr [103] [] i g (i, g) := Fr_rf _ _ _ _
  refine lv_aload_n hx hb dX9_tellsOf_0 rfl (lv_at hl 0 rfl) ?_
  refine r_getr X hT 96 17 103 fk_9_34 rfl rfl (by decide) dX9_tellsOf_1 ?_
  refine lv_bipush (v := 28) hx hb dX9_tellsOf_4 (by decide) ?_
  refine lv_iload_n hx hb dX9_tellsOf_6 rfl (lv_at hl 1 rfl) ?_
  refine q_iadd hx hb dX9_tellsOf_7 (fun x1 ex1 => ?_)
  obtain ⟨hx1, ax1⟩ := rg_add 33 33 ex1 (rg_k (by decide) : rg 28 28 28) ha_a (by decide)
  replace ax1 : x1.toInt = 28 + a_a.toInt := ax1
  refine lv_iload_n hx hb dX9_tellsOf_8 rfl (lv_at hl 2 rfl) ?_
  refine r_iastc X hT hS 103 33 rfl (by decide) (v_in hx1 (by decide)) (cl_c hx1 33 rfl (by decide)) dX9_tellsOf_9 (fun H locs i2 ei2 hT hS => ?_)
  have hR2 := Rg_put hR ei2 0 8 rfl ha_b (by decide)
  have hF2 := Fr_puti hF ei2 (by decide)
  exact hret _ _ _ _ _ _ dX9_tellsOf_10 hT hS ⟨hR2, hF2⟩
set_option maxRecDepth 100000 in
set_option maxHeartbeats 4000000 in
theorem m_X9_tellsOf_6_0t0 {l : Launch} {D : va_G} {h : Nat → Nat} {cz : Nat → ClassId} {z : EZ} {i : Nat → Nat → Int32} {g : Nat → Nat → Int64} (hR : Rg rA i) (a_a : Int32) (a_b : Int32) (ha_a : rg 6 6 a_a) (ha_b : rg 0 0 a_b) : DtV l yX9_tellsOf cX9_tellsOf 3 none ({ frames := 0, cells := 0, slots := 0, locals := 0 } : Room) D h cz z i g [.ref (h 96), .int a_a, .int a_b] (fun u => Rg rA u.1 ∧ Fr [103] [] i g u) := by
  refine e_V pn_X9_tellsOf (Nat.le_of_ble_eq_true rfl) ?_
  intro p e s m args below meth c ls Q X Y hret hT hl hS
  have hx := X.1
  have hb := X.2.1
  have hl : lv_has ls 3 [(0, .ref (h 96)), (1, .int a_a), (2, .int a_b)] := hl
  have hF : Fr [103] [] i g (i, g) := Fr_rf _ _ _ _
  refine lv_aload_n hx hb dX9_tellsOf_0 rfl (lv_at hl 0 rfl) ?_
  refine r_getr X hT 96 17 103 fk_9_34 rfl rfl (by decide) dX9_tellsOf_1 ?_
  refine lv_bipush (v := 28) hx hb dX9_tellsOf_4 (by decide) ?_
  refine lv_iload_n hx hb dX9_tellsOf_6 rfl (lv_at hl 1 rfl) ?_
  refine q_iadd hx hb dX9_tellsOf_7 (fun x1 ex1 => ?_)
  obtain ⟨hx1, ax1⟩ := rg_add 34 34 ex1 (rg_k (by decide) : rg 28 28 28) ha_a (by decide)
  replace ax1 : x1.toInt = 28 + a_a.toInt := ax1
  refine lv_iload_n hx hb dX9_tellsOf_8 rfl (lv_at hl 2 rfl) ?_
  refine r_iastc X hT hS 103 34 rfl (by decide) (v_in hx1 (by decide)) (cl_c hx1 34 rfl (by decide)) dX9_tellsOf_9 (fun H locs i2 ei2 hT hS => ?_)
  have hR2 := Rg_put hR ei2 0 20 rfl ha_b (by decide)
  have hF2 := Fr_puti hF ei2 (by decide)
  exact hret _ _ _ _ _ _ dX9_tellsOf_10 hT hS ⟨hR2, hF2⟩
set_option maxRecDepth 100000 in
set_option maxHeartbeats 4000000 in
theorem m_X9_clears {l : Launch} {D : va_G} {h : Nat → Nat} {cz : Nat → ClassId} {z : EZ} {i : Nat → Nat → Int32} {g : Nat → Nat → Int64} (hR : Rg rA i) : DtV l yX9_clears cX9_clears 2 none ({ frames := 1, cells := 0, slots := 0, locals := 22 } : Room) D h cz z i g [.ref (h 96)] (fun u => Rg rA u.1 ∧ Fr [102, 103] [] i g u) := by
  refine e_V pn_X9_clears (Nat.le_of_ble_eq_true rfl) ?_
  intro p e s m args below meth c ls Q X Y hret hT hl hS
  have hx := X.1
  have hb := X.2.1
  have hl : lv_has ls 2 [(0, .ref (h 96))] := hl
  have hF : Fr [102, 103] [] i g (i, g) := Fr_rf _ _ _ _
  refine lv_aload_n hx hb dX9_clears_0 rfl (lv_at hl 0 rfl) ?_
  refine r_getr X hT 96 16 102 fk_9_31 rfl rfl (by decide) dX9_clears_1 ?_
  refine lv_iconst (v := 4) hx hb dX9_clears_4 (by decide) ?_
  refine lv_iconst (v := 0) hx hb dX9_clears_5 (by decide) ?_
  refine r_iastc X hT hS 102 4 rfl (by decide) (v_in (rg_k (by decide) : rg 4 4 4) (by decide)) (by decide) dX9_clears_6 (fun H locs i1 ei1 hT hS => ?_)
  have hR1 := Rg_put hR ei1 (-2147483648) 2147483647 rfl (rg_k (by decide) : rg 0 0 0) (by decide)
  have hF1 := Fr_puti hF ei1 (by decide)
  refine lv_iconst (v := 0) hx hb dX9_clears_7 (by decide) ?_
  refine lv_istore_n (lv' := [(1, .int 0), (0, .ref (h 96))]) hx hb dX9_clears_8 rfl hl (by decide) rfl (fun ls hl => ?_)
  refine lv_iload_n hx hb dX9_clears_9 rfl (lv_at hl 0 rfl) ?_
  refine lv_bipush (v := 7) hx hb dX9_clears_10 (by decide) ?_
  refine lv_icmp_ge (tgt := 27) hx hb dX9_clears_12 (by decide) (fun c2 => (x_le (rg_k (by decide) : rg 7 7 7) (rg_k (by decide) : rg 0 0 0) (i_le c2) (by decide)).elim) (fun c2 => ?_)
  refine lv_aload_n hx hb dX9_clears_15 rfl (lv_at hl 1 rfl) ?_
  refine lv_iload_n hx hb dX9_clears_16 rfl (lv_at hl 0 rfl) ?_
  refine lv_iconst (v := 0) hx hb dX9_clears_17 (by decide) ?_
  refine e_Vv (As := [.int 0, .int 0]) (rest := []) X Y hT hS (m_X9_tellsOf_0_0t0 hR1 (0) (0) (rg_k (by decide) : rg 0 0 0) (rg_k (by decide) : rg 0 0 0)) mk_X9_tellsOf gm_1534 rfl rfl (by decide) hd_X9_tellsOf ⟨rfl, rfl⟩ ⟨Nat.le_of_ble_eq_true rfl, Nat.le_of_ble_eq_true rfl⟩ hl.1 rfl (Nat.le_of_ble_eq_true rfl) dX9_clears_18 ⟨Nat.zero_le _, Nat.zero_le _⟩ (fun i3 g3 H locs hq hT hS => ?_)
  obtain ⟨hR3, hf3⟩ := hq
  have hF3 := Fr_tr hF1 hf3 (by decide)
  obtain ⟨x4, ex4⟩ : ∃ y : Int32, y = 0 + 1 := ⟨_, rfl⟩
  refine lv_iinc (v := x4) (lv' := [(1, .int x4), (0, .ref (h 96))]) hx hb dX9_clears_21 hl (k := 0) rfl (by rw [ex4]; rfl) (by decide) rfl (fun ls hl => ?_)
  obtain ⟨hx4, ax4⟩ := rg_add 1 1 ex4 (rg_k (by decide) : rg 0 0 0) (rg_k (by decide) : rg 1 1 1) (by decide)
  replace ax4 : x4.toInt = 0 + 1 := ax4
  refine lv_goto (tgt := 9) hx hb dX9_clears_24 (by decide) ?_
  refine lv_iload_n hx hb dX9_clears_9 rfl (lv_at hl 0 rfl) ?_
  refine lv_bipush (v := 7) hx hb dX9_clears_10 (by decide) ?_
  refine lv_icmp_ge (tgt := 27) hx hb dX9_clears_12 (by decide) (fun c5 => (x_le (rg_k (by decide) : rg 7 7 7) hx4 (i_le c5) (by decide)).elim) (fun c5 => ?_)
  have q5 : x4.toInt < 7 := i_nle c5
  refine lv_aload_n hx hb dX9_clears_15 rfl (lv_at hl 1 rfl) ?_
  refine lv_iload_n hx hb dX9_clears_16 rfl (lv_at hl 0 rfl) ?_
  refine lv_iconst (v := 0) hx hb dX9_clears_17 (by decide) ?_
  refine e_Vv (As := [.int x4, .int 0]) (rest := []) X Y hT hS (m_X9_tellsOf_1_0t0 hR3 x4 (0) hx4 (rg_k (by decide) : rg 0 0 0)) mk_X9_tellsOf gm_1534 rfl rfl (by decide) hd_X9_tellsOf ⟨rfl, rfl⟩ ⟨Nat.le_of_ble_eq_true rfl, Nat.le_of_ble_eq_true rfl⟩ hl.1 rfl (Nat.le_of_ble_eq_true rfl) dX9_clears_18 ⟨Nat.zero_le _, Nat.zero_le _⟩ (fun i6 g6 H locs hq hT hS => ?_)
  obtain ⟨hR6, hf6⟩ := hq
  have hF6 := Fr_tr hF3 hf6 (by decide)
  obtain ⟨x7, ex7⟩ : ∃ y : Int32, y = x4 + 1 := ⟨_, rfl⟩
  refine lv_iinc (v := x7) (lv' := [(1, .int x7), (0, .ref (h 96))]) hx hb dX9_clears_21 hl (k := 0) rfl (by rw [ex7]; rfl) (by decide) rfl (fun ls hl => ?_)
  obtain ⟨hx7, ax7⟩ := rg_add 2 2 ex7 hx4 (rg_k (by decide) : rg 1 1 1) (by decide)
  replace ax7 : x7.toInt = x4.toInt + 1 := ax7
  refine lv_goto (tgt := 9) hx hb dX9_clears_24 (by decide) ?_
  refine lv_iload_n hx hb dX9_clears_9 rfl (lv_at hl 0 rfl) ?_
  refine lv_bipush (v := 7) hx hb dX9_clears_10 (by decide) ?_
  refine lv_icmp_ge (tgt := 27) hx hb dX9_clears_12 (by decide) (fun c8 => (x_le (rg_k (by decide) : rg 7 7 7) hx7 (i_le c8) (by decide)).elim) (fun c8 => ?_)
  have q8 : x7.toInt < 7 := i_nle c8
  refine lv_aload_n hx hb dX9_clears_15 rfl (lv_at hl 1 rfl) ?_
  refine lv_iload_n hx hb dX9_clears_16 rfl (lv_at hl 0 rfl) ?_
  refine lv_iconst (v := 0) hx hb dX9_clears_17 (by decide) ?_
  refine e_Vv (As := [.int x7, .int 0]) (rest := []) X Y hT hS (m_X9_tellsOf_2_0t0 hR6 x7 (0) hx7 (rg_k (by decide) : rg 0 0 0)) mk_X9_tellsOf gm_1534 rfl rfl (by decide) hd_X9_tellsOf ⟨rfl, rfl⟩ ⟨Nat.le_of_ble_eq_true rfl, Nat.le_of_ble_eq_true rfl⟩ hl.1 rfl (Nat.le_of_ble_eq_true rfl) dX9_clears_18 ⟨Nat.zero_le _, Nat.zero_le _⟩ (fun i9 g9 H locs hq hT hS => ?_)
  obtain ⟨hR9, hf9⟩ := hq
  have hF9 := Fr_tr hF6 hf9 (by decide)
  obtain ⟨x10, ex10⟩ : ∃ y : Int32, y = x7 + 1 := ⟨_, rfl⟩
  refine lv_iinc (v := x10) (lv' := [(1, .int x10), (0, .ref (h 96))]) hx hb dX9_clears_21 hl (k := 0) rfl (by rw [ex10]; rfl) (by decide) rfl (fun ls hl => ?_)
  obtain ⟨hx10, ax10⟩ := rg_add 3 3 ex10 hx7 (rg_k (by decide) : rg 1 1 1) (by decide)
  replace ax10 : x10.toInt = x7.toInt + 1 := ax10
  refine lv_goto (tgt := 9) hx hb dX9_clears_24 (by decide) ?_
  refine lv_iload_n hx hb dX9_clears_9 rfl (lv_at hl 0 rfl) ?_
  refine lv_bipush (v := 7) hx hb dX9_clears_10 (by decide) ?_
  refine lv_icmp_ge (tgt := 27) hx hb dX9_clears_12 (by decide) (fun c11 => (x_le (rg_k (by decide) : rg 7 7 7) hx10 (i_le c11) (by decide)).elim) (fun c11 => ?_)
  have q11 : x10.toInt < 7 := i_nle c11
  refine lv_aload_n hx hb dX9_clears_15 rfl (lv_at hl 1 rfl) ?_
  refine lv_iload_n hx hb dX9_clears_16 rfl (lv_at hl 0 rfl) ?_
  refine lv_iconst (v := 0) hx hb dX9_clears_17 (by decide) ?_
  refine e_Vv (As := [.int x10, .int 0]) (rest := []) X Y hT hS (m_X9_tellsOf_3_0t0 hR9 x10 (0) hx10 (rg_k (by decide) : rg 0 0 0)) mk_X9_tellsOf gm_1534 rfl rfl (by decide) hd_X9_tellsOf ⟨rfl, rfl⟩ ⟨Nat.le_of_ble_eq_true rfl, Nat.le_of_ble_eq_true rfl⟩ hl.1 rfl (Nat.le_of_ble_eq_true rfl) dX9_clears_18 ⟨Nat.zero_le _, Nat.zero_le _⟩ (fun i12 g12 H locs hq hT hS => ?_)
  obtain ⟨hR12, hf12⟩ := hq
  have hF12 := Fr_tr hF9 hf12 (by decide)
  obtain ⟨x13, ex13⟩ : ∃ y : Int32, y = x10 + 1 := ⟨_, rfl⟩
  refine lv_iinc (v := x13) (lv' := [(1, .int x13), (0, .ref (h 96))]) hx hb dX9_clears_21 hl (k := 0) rfl (by rw [ex13]; rfl) (by decide) rfl (fun ls hl => ?_)
  obtain ⟨hx13, ax13⟩ := rg_add 4 4 ex13 hx10 (rg_k (by decide) : rg 1 1 1) (by decide)
  replace ax13 : x13.toInt = x10.toInt + 1 := ax13
  refine lv_goto (tgt := 9) hx hb dX9_clears_24 (by decide) ?_
  refine lv_iload_n hx hb dX9_clears_9 rfl (lv_at hl 0 rfl) ?_
  refine lv_bipush (v := 7) hx hb dX9_clears_10 (by decide) ?_
  refine lv_icmp_ge (tgt := 27) hx hb dX9_clears_12 (by decide) (fun c14 => (x_le (rg_k (by decide) : rg 7 7 7) hx13 (i_le c14) (by decide)).elim) (fun c14 => ?_)
  have q14 : x13.toInt < 7 := i_nle c14
  refine lv_aload_n hx hb dX9_clears_15 rfl (lv_at hl 1 rfl) ?_
  refine lv_iload_n hx hb dX9_clears_16 rfl (lv_at hl 0 rfl) ?_
  refine lv_iconst (v := 0) hx hb dX9_clears_17 (by decide) ?_
  refine e_Vv (As := [.int x13, .int 0]) (rest := []) X Y hT hS (m_X9_tellsOf_4_0t0 hR12 x13 (0) hx13 (rg_k (by decide) : rg 0 0 0)) mk_X9_tellsOf gm_1534 rfl rfl (by decide) hd_X9_tellsOf ⟨rfl, rfl⟩ ⟨Nat.le_of_ble_eq_true rfl, Nat.le_of_ble_eq_true rfl⟩ hl.1 rfl (Nat.le_of_ble_eq_true rfl) dX9_clears_18 ⟨Nat.zero_le _, Nat.zero_le _⟩ (fun i15 g15 H locs hq hT hS => ?_)
  obtain ⟨hR15, hf15⟩ := hq
  have hF15 := Fr_tr hF12 hf15 (by decide)
  obtain ⟨x16, ex16⟩ : ∃ y : Int32, y = x13 + 1 := ⟨_, rfl⟩
  refine lv_iinc (v := x16) (lv' := [(1, .int x16), (0, .ref (h 96))]) hx hb dX9_clears_21 hl (k := 0) rfl (by rw [ex16]; rfl) (by decide) rfl (fun ls hl => ?_)
  obtain ⟨hx16, ax16⟩ := rg_add 5 5 ex16 hx13 (rg_k (by decide) : rg 1 1 1) (by decide)
  replace ax16 : x16.toInt = x13.toInt + 1 := ax16
  refine lv_goto (tgt := 9) hx hb dX9_clears_24 (by decide) ?_
  refine lv_iload_n hx hb dX9_clears_9 rfl (lv_at hl 0 rfl) ?_
  refine lv_bipush (v := 7) hx hb dX9_clears_10 (by decide) ?_
  refine lv_icmp_ge (tgt := 27) hx hb dX9_clears_12 (by decide) (fun c17 => (x_le (rg_k (by decide) : rg 7 7 7) hx16 (i_le c17) (by decide)).elim) (fun c17 => ?_)
  have q17 : x16.toInt < 7 := i_nle c17
  refine lv_aload_n hx hb dX9_clears_15 rfl (lv_at hl 1 rfl) ?_
  refine lv_iload_n hx hb dX9_clears_16 rfl (lv_at hl 0 rfl) ?_
  refine lv_iconst (v := 0) hx hb dX9_clears_17 (by decide) ?_
  refine e_Vv (As := [.int x16, .int 0]) (rest := []) X Y hT hS (m_X9_tellsOf_5_0t0 hR15 x16 (0) hx16 (rg_k (by decide) : rg 0 0 0)) mk_X9_tellsOf gm_1534 rfl rfl (by decide) hd_X9_tellsOf ⟨rfl, rfl⟩ ⟨Nat.le_of_ble_eq_true rfl, Nat.le_of_ble_eq_true rfl⟩ hl.1 rfl (Nat.le_of_ble_eq_true rfl) dX9_clears_18 ⟨Nat.zero_le _, Nat.zero_le _⟩ (fun i18 g18 H locs hq hT hS => ?_)
  obtain ⟨hR18, hf18⟩ := hq
  have hF18 := Fr_tr hF15 hf18 (by decide)
  obtain ⟨x19, ex19⟩ : ∃ y : Int32, y = x16 + 1 := ⟨_, rfl⟩
  refine lv_iinc (v := x19) (lv' := [(1, .int x19), (0, .ref (h 96))]) hx hb dX9_clears_21 hl (k := 0) rfl (by rw [ex19]; rfl) (by decide) rfl (fun ls hl => ?_)
  obtain ⟨hx19, ax19⟩ := rg_add 6 6 ex19 hx16 (rg_k (by decide) : rg 1 1 1) (by decide)
  replace ax19 : x19.toInt = x16.toInt + 1 := ax19
  refine lv_goto (tgt := 9) hx hb dX9_clears_24 (by decide) ?_
  refine lv_iload_n hx hb dX9_clears_9 rfl (lv_at hl 0 rfl) ?_
  refine lv_bipush (v := 7) hx hb dX9_clears_10 (by decide) ?_
  refine lv_icmp_ge (tgt := 27) hx hb dX9_clears_12 (by decide) (fun c20 => (x_le (rg_k (by decide) : rg 7 7 7) hx19 (i_le c20) (by decide)).elim) (fun c20 => ?_)
  have q20 : x19.toInt < 7 := i_nle c20
  refine lv_aload_n hx hb dX9_clears_15 rfl (lv_at hl 1 rfl) ?_
  refine lv_iload_n hx hb dX9_clears_16 rfl (lv_at hl 0 rfl) ?_
  refine lv_iconst (v := 0) hx hb dX9_clears_17 (by decide) ?_
  refine e_Vv (As := [.int x19, .int 0]) (rest := []) X Y hT hS (m_X9_tellsOf_6_0t0 hR18 x19 (0) hx19 (rg_k (by decide) : rg 0 0 0)) mk_X9_tellsOf gm_1534 rfl rfl (by decide) hd_X9_tellsOf ⟨rfl, rfl⟩ ⟨Nat.le_of_ble_eq_true rfl, Nat.le_of_ble_eq_true rfl⟩ hl.1 rfl (Nat.le_of_ble_eq_true rfl) dX9_clears_18 ⟨Nat.zero_le _, Nat.zero_le _⟩ (fun i21 g21 H locs hq hT hS => ?_)
  obtain ⟨hR21, hf21⟩ := hq
  have hF21 := Fr_tr hF18 hf21 (by decide)
  obtain ⟨x22, ex22⟩ : ∃ y : Int32, y = x19 + 1 := ⟨_, rfl⟩
  refine lv_iinc (v := x22) (lv' := [(1, .int x22), (0, .ref (h 96))]) hx hb dX9_clears_21 hl (k := 0) rfl (by rw [ex22]; rfl) (by decide) rfl (fun ls hl => ?_)
  obtain ⟨hx22, ax22⟩ := rg_add 7 7 ex22 hx19 (rg_k (by decide) : rg 1 1 1) (by decide)
  replace ax22 : x22.toInt = x19.toInt + 1 := ax22
  refine lv_goto (tgt := 9) hx hb dX9_clears_24 (by decide) ?_
  refine lv_iload_n hx hb dX9_clears_9 rfl (lv_at hl 0 rfl) ?_
  refine lv_bipush (v := 7) hx hb dX9_clears_10 (by decide) ?_
  refine lv_icmp_ge (tgt := 27) hx hb dX9_clears_12 (by decide) (fun c23 => ?_) (fun c23 => (x_lt hx22 (rg_k (by decide) : rg 7 7 7) (i_nle c23) (by decide)).elim)
  have q23 : 7 ≤ x22.toInt := i_le c23
  exact hret _ _ _ _ _ _ dX9_clears_27 hT hS ⟨hR21, hF21⟩
set_option maxRecDepth 100000 in
set_option maxHeartbeats 4000000 in
theorem m_X9_isByte {l : Launch} {D : va_G} {h : Nat → Nat} {cz : Nat → ClassId} {z : EZ} {i : Nat → Nat → Int32} {g : Nat → Nat → Int64} (hR : Rg rA i) (a_a : Int32) (a_b : Int32) (a_c : Int32) (ha_a : rg 0 700 a_a) : DtI l yX9_isByte cX9_isByte 4 (some .boolean) ({ frames := 0, cells := 0, slots := 0, locals := 0 } : Room) D h cz z i g [.ref (h 96), .int a_a, .int a_b, .int a_c] (fun r u => (u = (i, g) ∧ r = 1 ∧ (a_a.toInt < (i 96 6).toInt)) ∨ (u = (i, g) ∧ r = 0)) := by
  refine e_Z (fun v u hq => (hq.elim (fun hq => (Or.inr hq.2.1)) (fun hq => (Or.inl hq.2)))) pn_X9_isByte (Nat.le_of_ble_eq_true rfl) ?_
  intro p e s m args below meth c ls Q X Y hret hT hl hS
  have hx := X.1
  have hb := X.2.1
  have hl : lv_has ls 4 [(0, .ref (h 96)), (1, .int a_a), (2, .int a_b), (3, .int a_c)] := hl
  refine lv_iload_n hx hb dX9_isByte_0 rfl (lv_at hl 1 rfl) ?_
  refine lv_aload_n hx hb dX9_isByte_1 rfl (lv_at hl 0 rfl) ?_
  refine r_geti X hT 96 6 fk_9_100 rfl rfl (by decide) dX9_isByte_2 ?_
  refine lv_icmp_ge (tgt := 32) hx hb dX9_isByte_5 (by decide) (fun c1 => ?_) (fun c1 => ?_)
  ·
    have q1 : (i 96 6).toInt ≤ a_a.toInt := i_le c1
    refine lv_iconst (v := 0) hx hb dX9_isByte_32 (by decide) ?_
    exact hret 0 _ _ _ _ _ _ dX9_isByte_33 hT hS (Or.inr ⟨rfl, rfl⟩)
  ·
    have q1 : a_a.toInt < (i 96 6).toInt := i_nle c1
    have h2 : rg 0 699 a_a := t_ltx 0 699 ha_a (Rg_at hR 96 6 0 700 (by decide) rfl) (i_nle c1) (by decide)
    have h3 : rg 1 700 (i 96 6) := t_lty 1 700 ha_a (Rg_at hR 96 6 0 700 (by decide) rfl) (i_nle c1) (by decide)
    refine lv_aload_n hx hb dX9_isByte_8 rfl (lv_at hl 0 rfl) ?_
    refine r_getr X hT 96 5 101 fk_9_23 rfl rfl (by decide) dX9_isByte_9 ?_
    refine lv_iload_n hx hb dX9_isByte_12 rfl (lv_at hl 1 rfl) ?_
    refine r_bald X hT 101 rfl (by decide) (v_in h2 (by decide)) dX9_isByte_13 ?_
    refine lv_iload_n hx hb dX9_isByte_14 rfl (lv_at hl 2 rfl) ?_
    refine lv_icmp_lt (tgt := 32) hx hb dX9_isByte_15 (by decide) (fun c4 => ?_) (fun c4 => ?_)
    ·
      have q4 : (i 101 a_a.toNatClampNeg).toInt < a_b.toInt := i_lt c4
      have h5 : rg (-127) 2147483647 a_b := t_lty (-127) 2147483647 (Rg_at hR 101 a_a.toNatClampNeg (-128) 127 (v_lt (v_in h2 (by decide))) rfl) (rg_top a_b) (i_lt c4) (by decide)
      refine lv_iconst (v := 0) hx hb dX9_isByte_32 (by decide) ?_
      exact hret 0 _ _ _ _ _ _ dX9_isByte_33 hT hS (Or.inr ⟨rfl, rfl⟩)
    ·
      have q4 : a_b.toInt ≤ (i 101 a_a.toNatClampNeg).toInt := i_nlt c4
      have h6 : rg (-2147483648) 127 a_b := t_lex (-2147483648) 127 (rg_top a_b) (Rg_at hR 101 a_a.toNatClampNeg (-128) 127 (v_lt (v_in h2 (by decide))) rfl) (i_nlt c4) (by decide)
      refine lv_aload_n hx hb dX9_isByte_18 rfl (lv_at hl 0 rfl) ?_
      refine r_getr X hT 96 5 101 fk_9_23 rfl rfl (by decide) dX9_isByte_19 ?_
      refine lv_iload_n hx hb dX9_isByte_22 rfl (lv_at hl 1 rfl) ?_
      refine r_bald X hT 101 rfl (by decide) (v_in h2 (by decide)) dX9_isByte_23 ?_
      refine lv_iload_n hx hb dX9_isByte_24 rfl (lv_at hl 3 rfl) ?_
      refine lv_icmp_gt (tgt := 32) hx hb dX9_isByte_25 (by decide) (fun c7 => ?_) (fun c7 => ?_)
      ·
        have q7 : a_c.toInt < (i 101 a_a.toNatClampNeg).toInt := i_lt c7
        have h8 : rg (-2147483648) 126 a_c := t_ltx (-2147483648) 126 (rg_top a_c) (Rg_at hR 101 a_a.toNatClampNeg (-128) 127 (v_lt (v_in h2 (by decide))) rfl) (i_lt c7) (by decide)
        refine lv_iconst (v := 0) hx hb dX9_isByte_32 (by decide) ?_
        exact hret 0 _ _ _ _ _ _ dX9_isByte_33 hT hS (Or.inr ⟨rfl, rfl⟩)
      ·
        have q7 : (i 101 a_a.toNatClampNeg).toInt ≤ a_c.toInt := i_nlt c7
        have h9 : rg (-128) 2147483647 a_c := t_ley (-128) 2147483647 (Rg_at hR 101 a_a.toNatClampNeg (-128) 127 (v_lt (v_in h2 (by decide))) rfl) (rg_top a_c) (i_nlt c7) (by decide)
        refine lv_iconst (v := 1) hx hb dX9_isByte_28 (by decide) ?_
        refine lv_goto (tgt := 33) hx hb dX9_isByte_29 (by decide) ?_
        exact hret 1 _ _ _ _ _ _ dX9_isByte_33 hT hS (Or.inl ⟨rfl, rfl, (by omega)⟩)
set_option maxRecDepth 100000 in
set_option maxHeartbeats 4000000 in
theorem m_X9_follows {l : Launch} {D : va_G} {h : Nat → Nat} {cz : Nat → ClassId} {z : EZ} {i : Nat → Nat → Int32} {g : Nat → Nat → Int64} (hR : Rg rA i) (hp0 : (i 96 7).toInt ≤ (i 96 6).toInt) : DtV l yX9_follows cX9_follows 2 none ({ frames := 1, cells := 0, slots := 0, locals := 23 } : Room) D h cz z i g [.ref (h 96)] (fun u => Rg rA u.1 ∧ Fr [96] [96] i g u ∧ ((u.1 96 7).toInt ≤ (u.1 96 6).toInt) ∧ prg i u.1 ∧ u.1 96 12 = i 96 12) := by
  refine e_V pn_X9_follows (Nat.le_of_ble_eq_true rfl) ?_
  intro p e s m args below meth c ls Q X Y hret hT hl hS
  have hx := X.1
  have hb := X.2.1
  have hl : lv_has ls 2 [(0, .ref (h 96))] := hl
  have hF : Fr [96] [96] i g (i, g) := Fr_rf _ _ _ _
  have L0_1 : ∀ (n3_ : Nat)  (i2 : Nat → Nat → Int32) (g2 : Nat → Nat → Int64) (H : Heap) (locs : List Loc) (ls : Array Slot), Rg rA i2 → Fr [96] [96] i g (i2, g2) → ((i2 96 7).toInt ≤ (i2 96 6).toInt) → ((i 96 7).toInt ≤ (i2 96 7).toInt) → (i2 96 12 = i 96 12) → TH D h cz i2 g2 H → va_S (hA h) s.heap H locs → lv_has ls 2 [(0, .ref (h 96))] → (700 - (i2 96 7).toInt).toNat < n3_ → W p l e ({ frames := 1, cells := 0, slots := 0, locals := 23 } : Room) s m args below meth c H locs 0 0 Q (F0 m 0 ls []) := by
    intro n3_
    induction n3_ with
    | zero => intro  i2 g2 H locs ls hR2 hF2 hP2_0 hP2_1 hP2_2 hT hS hl hm3_; exact absurd hm3_ (Nat.not_lt_zero _)
    | succ n3_ ih3_ =>
      intro  i2 g2 H locs ls hR2 hF2 hP2_0 hP2_1 hP2_2 hT hS hl hm3_
      refine lv_aload_n hx hb dX9_follows_0 rfl (lv_at hl 0 rfl) ?_
      refine lv_aload_n hx hb dX9_follows_1 rfl (lv_at hl 0 rfl) ?_
      refine r_geti X hT 96 7 fk_9_107 rfl rfl (by decide) dX9_follows_2 ?_
      refine lv_bipush (v := 32) hx hb dX9_follows_5 (by decide) ?_
      refine lv_bipush (v := 32) hx hb dX9_follows_7 (by decide) ?_
      refine e_Vi (As := [.int (i2 96 7), .int 32, .int 32]) (rest := []) X Y hT hS (m_X9_isByte hR2 (i2 96 7) (32) (32) (Rg_at hR2 96 7 0 700 (by decide) rfl)) mk_X9_isByte gm_1546 rfl rfl (by decide) hd_X9_isByte ⟨rfl, rfl⟩ ⟨Nat.le_of_ble_eq_true rfl, Nat.le_of_ble_eq_true rfl⟩ hl.1 rfl (Nat.le_of_ble_eq_true rfl) dX9_follows_9 ⟨Nat.zero_le _, Nat.zero_le _⟩ (fun r4 i4 g4 H locs hq hT hS => ?_)
      rcases hq with hq | hq
      ·
        obtain ⟨eh4, rfl, hf4_0⟩ := hq
        rw [(Prod.mk.inj eh4).1, (Prod.mk.inj eh4).2] at hT
        replace hf4_0 : (i2 96 7).toInt < (i2 96 6).toInt := hf4_0
        have h5 : rg 0 699 (i2 96 7) := ⟨by have := (Rg_at hR2 96 7 0 700 (by decide) rfl).1; omega, by have := (Rg_at hR2 96 6 0 700 (by decide) rfl).2; omega⟩
        refine lv_if_ne (tgt := 30) hx hb dX9_follows_12 (by decide) (fun c6 => ?_) (fun c6 => (x_eq (rg_k (by decide) : rg 1 1 1) (rg_k (by decide) : rg 0 0 0) (i_eq c6) (by decide)).elim)
        refine lv_aload_n hx hb dX9_follows_30 rfl (lv_at hl 0 rfl) ?_
        refine lv_dup hx hb dX9_follows_31 rfl ?_
        refine r_geti X hT 96 7 fk_9_107 rfl rfl (by decide) dX9_follows_32 ?_
        refine lv_iconst (v := 1) hx hb dX9_follows_35 (by decide) ?_
        refine q_iadd hx hb dX9_follows_36 (fun x7 ex7 => ?_)
        obtain ⟨hx7, ax7⟩ := rg_add 1 700 ex7 h5 (rg_k (by decide) : rg 1 1 1) (by decide)
        replace ax7 : x7.toInt = (i2 96 7).toInt + 1 := ax7
        refine r_puti X hT hS 96 7 pk_9_107 rfl rfl rfl rfl (by decide) dX9_follows_37 (fun H locs i8 ei8 hT hS => ?_)
        have hR8 := Rg_put hR2 ei8 0 700 rfl hx7 (by decide)
        have hF8 := Fr_puti hF2 ei8 (by decide)
        have hP8 : (i8 96 7).toInt ≤ (i8 96 6).toInt := by rw [z_s ei8, z_k ei8 rfl (by decide)]; have := h5.1; have := h5.2; have := (Rg_at hR2 96 6 0 700 (by decide) rfl).1; have := (Rg_at hR2 96 6 0 700 (by decide) rfl).2; have := hx7.1; have := hx7.2; have := hP2_0; have := ax7; omega
        have hs8 : (i 96 7).toInt < (i8 96 7).toInt := by rw [z_s ei8]; have := hP2_1; have := ax7; omega
        have hM8 : (i 96 7).toInt ≤ (i8 96 7).toInt := Int.le_of_lt hs8
        have hE8_12 : i8 96 12 = i 96 12 := z_k ei8 hP2_2 (by decide)
        refine lv_goto (tgt := 0) hx hb dX9_follows_40 (by decide) ?_
        exact ih3_ i8 g2 _ _ _ hR8 hF8 hP8 hM8 hE8_12 hT hS (lv_sub hl [0] rfl) (by rw [show i8 96 7 = x7 from (z_s ei8)]; exact m_up ax7 hx7 (by decide) hm3_)
      ·
        obtain ⟨eh4, rfl⟩ := hq
        rw [(Prod.mk.inj eh4).1, (Prod.mk.inj eh4).2] at hT
        refine lv_if_ne (tgt := 30) hx hb dX9_follows_12 (by decide) (fun c9 => (x_ne (rg_k (by decide) : rg 0 0 0) (rg_k (by decide) : rg 0 0 0) (i_ne c9) (by decide)).elim) (fun c9 => ?_)
        refine lv_aload_n hx hb dX9_follows_15 rfl (lv_at hl 0 rfl) ?_
        refine lv_aload_n hx hb dX9_follows_16 rfl (lv_at hl 0 rfl) ?_
        refine r_geti X hT 96 7 fk_9_107 rfl rfl (by decide) dX9_follows_17 ?_
        refine lv_bipush (v := 10) hx hb dX9_follows_20 (by decide) ?_
        refine lv_bipush (v := 10) hx hb dX9_follows_22 (by decide) ?_
        refine e_Vi (As := [.int (i2 96 7), .int 10, .int 10]) (rest := []) X Y hT hS (m_X9_isByte hR2 (i2 96 7) (10) (10) (Rg_at hR2 96 7 0 700 (by decide) rfl)) mk_X9_isByte gm_1546 rfl rfl (by decide) hd_X9_isByte ⟨rfl, rfl⟩ ⟨Nat.le_of_ble_eq_true rfl, Nat.le_of_ble_eq_true rfl⟩ hl.1 rfl (Nat.le_of_ble_eq_true rfl) dX9_follows_24 ⟨Nat.zero_le _, Nat.zero_le _⟩ (fun r10 i10 g10 H locs hq hT hS => ?_)
        rcases hq with hq | hq
        ·
          obtain ⟨eh10, rfl, hf10_0⟩ := hq
          rw [(Prod.mk.inj eh10).1, (Prod.mk.inj eh10).2] at hT
          replace hf10_0 : (i2 96 7).toInt < (i2 96 6).toInt := hf10_0
          have h11 : rg 0 699 (i2 96 7) := ⟨by have := (Rg_at hR2 96 7 0 700 (by decide) rfl).1; omega, by have := (Rg_at hR2 96 6 0 700 (by decide) rfl).2; omega⟩
          refine lv_if_eq (tgt := 43) hx hb dX9_follows_27 (by decide) (fun c12 => (x_eq (rg_k (by decide) : rg 1 1 1) (rg_k (by decide) : rg 0 0 0) (i_eq c12) (by decide)).elim) (fun c12 => ?_)
          refine lv_aload_n hx hb dX9_follows_30 rfl (lv_at hl 0 rfl) ?_
          refine lv_dup hx hb dX9_follows_31 rfl ?_
          refine r_geti X hT 96 7 fk_9_107 rfl rfl (by decide) dX9_follows_32 ?_
          refine lv_iconst (v := 1) hx hb dX9_follows_35 (by decide) ?_
          refine q_iadd hx hb dX9_follows_36 (fun x13 ex13 => ?_)
          obtain ⟨hx13, ax13⟩ := rg_add 1 700 ex13 h11 (rg_k (by decide) : rg 1 1 1) (by decide)
          replace ax13 : x13.toInt = (i2 96 7).toInt + 1 := ax13
          refine r_puti X hT hS 96 7 pk_9_107 rfl rfl rfl rfl (by decide) dX9_follows_37 (fun H locs i14 ei14 hT hS => ?_)
          have hR14 := Rg_put hR2 ei14 0 700 rfl hx13 (by decide)
          have hF14 := Fr_puti hF2 ei14 (by decide)
          have hP14 : (i14 96 7).toInt ≤ (i14 96 6).toInt := by rw [z_s ei14, z_k ei14 rfl (by decide)]; have := h11.1; have := h11.2; have := (Rg_at hR2 96 6 0 700 (by decide) rfl).1; have := (Rg_at hR2 96 6 0 700 (by decide) rfl).2; have := hx13.1; have := hx13.2; have := hP2_0; have := ax13; omega
          have hs14 : (i 96 7).toInt < (i14 96 7).toInt := by rw [z_s ei14]; have := hP2_1; have := ax13; omega
          have hM14 : (i 96 7).toInt ≤ (i14 96 7).toInt := Int.le_of_lt hs14
          have hE14_12 : i14 96 12 = i 96 12 := z_k ei14 hP2_2 (by decide)
          refine lv_goto (tgt := 0) hx hb dX9_follows_40 (by decide) ?_
          exact ih3_ i14 g2 _ _ _ hR14 hF14 hP14 hM14 hE14_12 hT hS (lv_sub hl [0] rfl) (by rw [show i14 96 7 = x13 from (z_s ei14)]; exact m_up ax13 hx13 (by decide) hm3_)
        ·
          obtain ⟨eh10, rfl⟩ := hq
          rw [(Prod.mk.inj eh10).1, (Prod.mk.inj eh10).2] at hT
          refine lv_if_eq (tgt := 43) hx hb dX9_follows_27 (by decide) (fun c15 => ?_) (fun c15 => (x_ne (rg_k (by decide) : rg 0 0 0) (rg_k (by decide) : rg 0 0 0) (i_ne c15) (by decide)).elim)
          refine lv_aload_n hx hb dX9_follows_43 rfl (lv_at hl 0 rfl) ?_
          refine lv_aload_n hx hb dX9_follows_44 rfl (lv_at hl 0 rfl) ?_
          refine r_geti X hT 96 7 fk_9_107 rfl rfl (by decide) dX9_follows_45 ?_
          refine r_puti X hT hS 96 9 pk_9_114 rfl rfl rfl rfl (by decide) dX9_follows_48 (fun H locs i16 ei16 hT hS => ?_)
          have hR16 := Rg_put hR2 ei16 (-2147483648) 2147483647 rfl (Rg_at hR2 96 7 0 700 (by decide) rfl) (by decide)
          have hF16 := Fr_puti hF2 ei16 (by decide)
          have hP16 : (i16 96 7).toInt ≤ (i16 96 6).toInt := by rw [z_k ei16 rfl (by decide), z_k ei16 rfl (by decide)]; exact hP2_0
          have hM16 : (i 96 7).toInt ≤ (i16 96 7).toInt := by rw [z_k ei16 rfl (by decide)]; exact hP2_1
          have hE16_12 : i16 96 12 = i 96 12 := z_k ei16 hP2_2 (by decide)
          refine lv_aload_n hx hb dX9_follows_51 rfl (lv_at hl 0 rfl) ?_
          refine lv_iconst (v := 0) hx hb dX9_follows_52 (by decide) ?_
          refine r_puti X hT hS 96 10 pk_9_117 rfl rfl rfl rfl (by decide) dX9_follows_53 (fun H locs i17 ei17 hT hS => ?_)
          have hR17 := Rg_put hR16 ei17 (-2147483648) 2147483647 rfl (rg_k (by decide) : rg 0 0 0) (by decide)
          have hF17 := Fr_puti hF16 ei17 (by decide)
          have hP17 : (i17 96 7).toInt ≤ (i17 96 6).toInt := by rw [z_k ei17 rfl (by decide), z_k ei17 rfl (by decide)]; exact hP16
          have hM17 : (i 96 7).toInt ≤ (i17 96 7).toInt := by rw [z_k ei17 rfl (by decide)]; exact hM16
          have hE17_12 : i17 96 12 = i 96 12 := z_k ei17 hE16_12 (by decide)
          refine lv_aload_n hx hb dX9_follows_56 rfl (lv_at hl 0 rfl) ?_
          refine lv_lconst (v := 0) hx hb dX9_follows_57 (by decide) ?_
          refine r_putl X hT hS 96 11 pk_9_120 rfl rfl (by decide) dX9_follows_58 (fun H locs g18 eg18 hT hS => ?_)
          have hF18 := Fr_putl hF17 eg18 (by decide)
          refine lv_aload_n hx hb dX9_follows_61 rfl (lv_at hl 0 rfl) ?_
          refine r_geti X hT 96 7 fk_9_107 rfl rfl (by decide) dX9_follows_62 ?_
          have e19 : (i17 96 7) = (i2 96 7) := (z_k ei17 (z_k ei16 rfl (by decide)) (by decide))
          have h20 : rg 0 700 (i17 96 7) := rg_of e19 (Rg_at hR2 96 7 0 700 (by decide) rfl)
          refine lv_aload_n hx hb dX9_follows_65 rfl (lv_at hl 0 rfl) ?_
          refine r_geti X hT 96 6 fk_9_100 rfl rfl (by decide) dX9_follows_66 ?_
          refine lv_icmp_ne (tgt := 80) hx hb dX9_follows_69 (by decide) (fun c21 => ?_) (fun c21 => ?_)
          ·
            have q21 : ¬ (i17 96 7).toInt = (i17 96 6).toInt := i_ne c21
            refine lv_aload_n hx hb dX9_follows_80 rfl (lv_at hl 0 rfl) ?_
            refine lv_aload_n hx hb dX9_follows_81 rfl (lv_at hl 0 rfl) ?_
            refine r_geti X hT 96 7 fk_9_107 rfl rfl (by decide) dX9_follows_82 ?_
            refine lv_bipush (v := 97) hx hb dX9_follows_85 (by decide) ?_
            refine lv_bipush (v := 122) hx hb dX9_follows_87 (by decide) ?_
            refine e_Vi (As := [.int (i17 96 7), .int 97, .int 122]) (rest := []) X Y hT hS (m_X9_isByte hR17 (i17 96 7) (97) (122) h20) mk_X9_isByte gm_1546 rfl rfl (by decide) hd_X9_isByte ⟨rfl, rfl⟩ ⟨Nat.le_of_ble_eq_true rfl, Nat.le_of_ble_eq_true rfl⟩ hl.1 rfl (Nat.le_of_ble_eq_true rfl) dX9_follows_89 ⟨Nat.zero_le _, Nat.zero_le _⟩ (fun r22 i22 g22 H locs hq hT hS => ?_)
            rcases hq with hq | hq
            ·
              obtain ⟨eh22, rfl, hf22_0⟩ := hq
              rw [(Prod.mk.inj eh22).1, (Prod.mk.inj eh22).2] at hT
              replace hf22_0 : (i17 96 7).toInt < (i17 96 6).toInt := hf22_0
              have h23 : rg 0 699 (i17 96 7) := ⟨by have := h20.1; omega, by have := (Rg_at hR17 96 6 0 700 (by decide) rfl).2; omega⟩
              have h24 : rg 0 699 (i2 96 7) := rg_fo e19 h23
              refine lv_if_eq (tgt := 188) hx hb dX9_follows_92 (by decide) (fun c25 => (x_eq (rg_k (by decide) : rg 1 1 1) (rg_k (by decide) : rg 0 0 0) (i_eq c25) (by decide)).elim) (fun c25 => ?_)
              refine lv_aload_n hx hb dX9_follows_95 rfl (lv_at hl 0 rfl) ?_
              refine lv_iconst (v := 1) hx hb dX9_follows_96 (by decide) ?_
              refine r_puti X hT hS 96 8 pk_9_124 rfl rfl rfl rfl (by decide) dX9_follows_97 (fun H locs i26 ei26 hT hS => ?_)
              have hR26 := Rg_put hR17 ei26 (-2147483648) 2147483647 rfl (rg_k (by decide) : rg 1 1 1) (by decide)
              have hF26 := Fr_puti hF18 ei26 (by decide)
              have hP26 : (i26 96 7).toInt ≤ (i26 96 6).toInt := by rw [z_k ei26 rfl (by decide), z_k ei26 rfl (by decide)]; exact hP17
              have hM26 : (i 96 7).toInt ≤ (i26 96 7).toInt := by rw [z_k ei26 rfl (by decide)]; exact hM17
              have hE26_12 : i26 96 12 = i 96 12 := z_k ei26 hE17_12 (by decide)
              refine lv_iconst (v := 0) hx hb dX9_follows_100 (by decide) ?_
              refine lv_istore_n (lv' := [(1, .int 0), (0, .ref (h 96))]) hx hb dX9_follows_101 rfl hl (by decide) rfl (fun ls hl => ?_)
              have L102_27 : ∀ (n29_ : Nat) (x102_1_1 : Int32) (i28 : Nat → Nat → Int32) (g28 : Nat → Nat → Int64) (H : Heap) (locs : List Loc) (ls : Array Slot), Rg rA i28 → Fr [96] [96] i g (i28, g28) → ((i28 96 7).toInt ≤ (i28 96 6).toInt) → ((i 96 7).toInt ≤ (i28 96 7).toInt) → (i28 96 12 = i 96 12) → (i28 96 8 = 1) → TH D h cz i28 g28 H → va_S (hA h) s.heap H locs → lv_has ls 2 [(0, .ref (h 96)), (1, .int x102_1_1)] → (700 - (i28 96 7).toInt).toNat < n29_ → W p l e ({ frames := 1, cells := 0, slots := 0, locals := 23 } : Room) s m args below meth c H locs 0 0 Q (F0 m 102 ls []) := by
                intro n29_
                induction n29_ with
                | zero => intro x102_1_1 i28 g28 H locs ls hR28 hF28 hP28_0 hP28_1 hP28_2 hP28_3 hT hS hl hm29_; exact absurd hm29_ (Nat.not_lt_zero _)
                | succ n29_ ih29_ =>
                  intro x102_1_1 i28 g28 H locs ls hR28 hF28 hP28_0 hP28_1 hP28_2 hP28_3 hT hS hl hm29_
                  refine lv_aload_n hx hb dX9_follows_102 rfl (lv_at hl 0 rfl) ?_
                  refine lv_aload_n hx hb dX9_follows_103 rfl (lv_at hl 0 rfl) ?_
                  refine r_geti X hT 96 7 fk_9_107 rfl rfl (by decide) dX9_follows_104 ?_
                  refine lv_bipush (v := 97) hx hb dX9_follows_107 (by decide) ?_
                  refine lv_bipush (v := 122) hx hb dX9_follows_109 (by decide) ?_
                  refine e_Vi (As := [.int (i28 96 7), .int 97, .int 122]) (rest := []) X Y hT hS (m_X9_isByte hR28 (i28 96 7) (97) (122) (Rg_at hR28 96 7 0 700 (by decide) rfl)) mk_X9_isByte gm_1546 rfl rfl (by decide) hd_X9_isByte ⟨rfl, rfl⟩ ⟨Nat.le_of_ble_eq_true rfl, Nat.le_of_ble_eq_true rfl⟩ hl.1 rfl (Nat.le_of_ble_eq_true rfl) dX9_follows_111 ⟨Nat.zero_le _, Nat.zero_le _⟩ (fun r30 i30 g30 H locs hq hT hS => ?_)
                  rcases hq with hq | hq
                  ·
                    obtain ⟨eh30, rfl, hf30_0⟩ := hq
                    rw [(Prod.mk.inj eh30).1, (Prod.mk.inj eh30).2] at hT
                    replace hf30_0 : (i28 96 7).toInt < (i28 96 6).toInt := hf30_0
                    have h31 : rg 0 699 (i28 96 7) := ⟨by have := (Rg_at hR28 96 7 0 700 (by decide) rfl).1; omega, by have := (Rg_at hR28 96 6 0 700 (by decide) rfl).2; omega⟩
                    refine lv_if_eq (tgt := 185) hx hb dX9_follows_114 (by decide) (fun c32 => (x_eq (rg_k (by decide) : rg 1 1 1) (rg_k (by decide) : rg 0 0 0) (i_eq c32) (by decide)).elim) (fun c32 => ?_)
                    refine lv_aload_n hx hb dX9_follows_117 rfl (lv_at hl 0 rfl) ?_
                    refine lv_iload_n hx hb dX9_follows_118 rfl (lv_at hl 1 rfl) ?_
                    refine lv_bipush (v := 11) hx hb dX9_follows_119 (by decide) ?_
                    have J153_34 : ∀ (y153_34_s0 : Int64) (H : Heap) (locs : List Loc) (ls : Array Slot), TH D h cz i28 g28 H → va_S (hA h) s.heap H locs → lv_has ls 2 [(0, .ref (h 96)), (1, .int x102_1_1)] → W p l e ({ frames := 1, cells := 0, slots := 0, locals := 23 } : Room) s m args below meth c H locs 0 0 Q (F0 m 153 ls [.long y153_34_s0, .ref (h 96)]) := by
                      intro y153_34_s0 H locs ls hT hS hl
                      refine r_putl X hT hS 96 11 pk_9_120 rfl rfl (by decide) dX9_follows_153 (fun H locs g35 eg35 hT hS => ?_)
                      have hF35 := Fr_putl hF28 eg35 (by decide)
                      refine lv_iload_n hx hb dX9_follows_156 rfl (lv_at hl 1 rfl) ?_
                      refine lv_bipush (v := 11) hx hb dX9_follows_157 (by decide) ?_
                      have J169_37 : ∀  (g38 : Nat → Nat → Int64) (H : Heap) (locs : List Loc) (ls : Array Slot), Fr [96] [96] i g (i28, g38) → ((i28 96 7).toInt ≤ (i28 96 6).toInt) → ((i 96 7).toInt ≤ (i28 96 7).toInt) → (i28 96 12 = i 96 12) → (i28 96 8 = 1) → TH D h cz i28 g38 H → va_S (hA h) s.heap H locs → lv_has ls 2 [(0, .ref (h 96)), (1, .int x102_1_1)] → W p l e ({ frames := 1, cells := 0, slots := 0, locals := 23 } : Room) s m args below meth c H locs 0 0 Q (F0 m 169 ls []) := by
                        intro  g38 H locs ls hF38 hP38_0 hP38_1 hP38_2 hP38_3 hT hS hl
                        refine lv_aload_n hx hb dX9_follows_169 rfl (lv_at hl 0 rfl) ?_
                        refine lv_dup hx hb dX9_follows_170 rfl ?_
                        refine r_geti X hT 96 7 fk_9_107 rfl rfl (by decide) dX9_follows_171 ?_
                        refine lv_iconst (v := 1) hx hb dX9_follows_174 (by decide) ?_
                        refine q_iadd hx hb dX9_follows_175 (fun x39 ex39 => ?_)
                        obtain ⟨hx39, ax39⟩ := rg_add 1 700 ex39 h31 (rg_k (by decide) : rg 1 1 1) (by decide)
                        replace ax39 : x39.toInt = (i28 96 7).toInt + 1 := ax39
                        refine r_puti X hT hS 96 7 pk_9_107 rfl rfl rfl rfl (by decide) dX9_follows_176 (fun H locs i40 ei40 hT hS => ?_)
                        have hR40 := Rg_put hR28 ei40 0 700 rfl hx39 (by decide)
                        have hF40 := Fr_puti hF38 ei40 (by decide)
                        have hP40 : (i40 96 7).toInt ≤ (i40 96 6).toInt := by rw [z_s ei40, z_k ei40 rfl (by decide)]; have := h31.1; have := h31.2; have := (Rg_at hR28 96 6 0 700 (by decide) rfl).1; have := (Rg_at hR28 96 6 0 700 (by decide) rfl).2; have := hx39.1; have := hx39.2; have := congrArg Int32.toInt e19; have := hP38_0; have := ax39; omega
                        have hs40 : (i 96 7).toInt < (i40 96 7).toInt := by rw [z_s ei40]; have := hP38_1; have := ax39; omega
                        have hM40 : (i 96 7).toInt ≤ (i40 96 7).toInt := Int.le_of_lt hs40
                        have hE40_12 : i40 96 12 = i 96 12 := z_k ei40 hP38_2 (by decide)
                        have hV40_8 : i40 96 8 = 1 := z_k ei40 hP38_3 (by decide)
                        obtain ⟨x41, ex41⟩ : ∃ y : Int32, y = x102_1_1 + 1 := ⟨_, rfl⟩
                        refine lv_iinc (v := x41) (lv' := [(1, .int x41), (0, .ref (h 96))]) hx hb dX9_follows_179 hl (k := 1) rfl (by rw [ex41]; rfl) (by decide) rfl (fun ls hl => ?_)
                        refine lv_goto (tgt := 102) hx hb dX9_follows_182 (by decide) ?_
                        exact ih29_ x41 i40 g38 _ _ _ hR40 hF40 hP40 hM40 hE40_12 hV40_8 hT hS (lv_sub hl [1, 0] rfl) (by rw [show i40 96 7 = x39 from (z_s ei40)]; exact m_up ax39 hx39 (by decide) hm29_)
                      refine lv_icmp_le (tgt := 169) hx hb dX9_follows_159 (by decide) (fun c36 => ?_) (fun c36 => ?_)
                      ·
                        have q36 : x102_1_1.toInt ≤ 11 := i_le c36
                        have h42 : rg (-2147483648) 11 x102_1_1 := t_lex (-2147483648) 11 (rg_top x102_1_1) (rg_k (by decide) : rg 11 11 11) (i_le c36) (by decide)
                        exact J169_37 g35 _ _ _ hF35 hP28_0 hP28_1 hP28_2 hP28_3 hT hS (lv_sub hl [0, 1] rfl)
                      ·
                        have q36 : 11 < x102_1_1.toInt := i_nle c36
                        have h43 : rg 12 2147483647 x102_1_1 := t_lty 12 2147483647 (rg_k (by decide) : rg 11 11 11) (rg_top x102_1_1) (i_nle c36) (by decide)
                        refine lv_aload_n hx hb dX9_follows_162 rfl (lv_at hl 0 rfl) ?_
                        refine lv_ldc2 (v := (-1)) hx hb X.2.2.2.1 (X.2.2.2.2.1 _ gm_1550) dX9_follows_163 ?_
                        refine r_putl X hT hS 96 11 pk_9_120 rfl rfl (by decide) dX9_follows_166 (fun H locs g44 eg44 hT hS => ?_)
                        have hF44 := Fr_putl hF35 eg44 (by decide)
                        exact J169_37 g44 _ _ _ hF44 hP28_0 hP28_1 hP28_2 hP28_3 hT hS (lv_sub hl [0, 1] rfl)
                    refine lv_icmp_le (tgt := 130) hx hb dX9_follows_121 (by decide) (fun c33 => ?_) (fun c33 => ?_)
                    ·
                      have q33 : x102_1_1.toInt ≤ 11 := i_le c33
                      have h45 : rg (-2147483648) 11 x102_1_1 := t_lex (-2147483648) 11 (rg_top x102_1_1) (rg_k (by decide) : rg 11 11 11) (i_le c33) (by decide)
                      refine lv_ldc2 (v := 27) hx hb X.2.2.2.1 (X.2.2.2.2.1 _ gm_1551) dX9_follows_130 ?_
                      refine lv_aload_n hx hb dX9_follows_133 rfl (lv_at hl 0 rfl) ?_
                      refine r_getl X hT 96 11 fk_9_120 rfl rfl (by decide) dX9_follows_134 ?_
                      refine q_lmul hx hb dX9_follows_137 (fun y46 ey46 => ?_)
                      refine lv_aload_n hx hb dX9_follows_138 rfl (lv_at hl 0 rfl) ?_
                      refine r_getr X hT 96 5 101 fk_9_23 rfl rfl (by decide) dX9_follows_139 ?_
                      refine lv_aload_n hx hb dX9_follows_142 rfl (lv_at hl 0 rfl) ?_
                      refine r_geti X hT 96 7 fk_9_107 rfl rfl (by decide) dX9_follows_143 ?_
                      refine r_bald X hT 101 rfl (by decide) (v_in h31 (by decide)) dX9_follows_146 ?_
                      refine q_i2l hx hb dX9_follows_147 (fun y47 ey47 => ?_)
                      obtain ⟨hy47, ay47⟩ := rg_i2l ey47 (Rg_at hR28 101 (i28 96 7).toNatClampNeg (-128) 127 (v_lt (v_in h31 (by decide))) rfl)
                      refine q_ladd hx hb dX9_follows_148 (fun y48 ey48 => ?_)
                      refine lv_ldc2 (v := 96) hx hb X.2.2.2.1 (X.2.2.2.2.1 _ gm_1552) dX9_follows_149 ?_
                      refine q_lsub hx hb dX9_follows_152 (fun y49 ey49 => ?_)
                      exact J153_34 y49 _ _ _ hT hS (lv_sub hl [0, 1] rfl)
                    ·
                      have q33 : 11 < x102_1_1.toInt := i_nle c33
                      have h50 : rg 12 2147483647 x102_1_1 := t_lty 12 2147483647 (rg_k (by decide) : rg 11 11 11) (rg_top x102_1_1) (i_nle c33) (by decide)
                      refine lv_ldc2 (v := (-1)) hx hb X.2.2.2.1 (X.2.2.2.2.1 _ gm_1550) dX9_follows_124 ?_
                      refine lv_goto (tgt := 153) hx hb dX9_follows_127 (by decide) ?_
                      exact J153_34 ((-1)) _ _ _ hT hS (lv_sub hl [0, 1] rfl)
                  ·
                    obtain ⟨eh30, rfl⟩ := hq
                    rw [(Prod.mk.inj eh30).1, (Prod.mk.inj eh30).2] at hT
                    refine lv_if_eq (tgt := 185) hx hb dX9_follows_114 (by decide) (fun c51 => ?_) (fun c51 => (x_ne (rg_k (by decide) : rg 0 0 0) (rg_k (by decide) : rg 0 0 0) (i_ne c51) (by decide)).elim)
                    refine lv_goto (tgt := 307) hx hb dX9_follows_185 (by decide) ?_
                    exact hret _ _ _ _ _ _ dX9_follows_307 hT hS ⟨hR28, hF28, hP28_0, (prg_mk hP28_1 hP28_2 (Or.inl (by show ¬ (i28 96 8).toInt = 3; rw [show i28 96 8 = 1 from hP28_3]; decide))), hP28_2⟩
              exact L102_27 _ (0) i26 g18 _ _ _ hR26 hF26 hP26 hM26 hE26_12 (z_s ei26) hT hS (lv_sub hl [1, 0] rfl) (Nat.lt_succ_self _)
            ·
              obtain ⟨eh22, rfl⟩ := hq
              rw [(Prod.mk.inj eh22).1, (Prod.mk.inj eh22).2] at hT
              refine lv_if_eq (tgt := 188) hx hb dX9_follows_92 (by decide) (fun c52 => ?_) (fun c52 => (x_ne (rg_k (by decide) : rg 0 0 0) (rg_k (by decide) : rg 0 0 0) (i_ne c52) (by decide)).elim)
              refine lv_aload_n hx hb dX9_follows_188 rfl (lv_at hl 0 rfl) ?_
              refine lv_aload_n hx hb dX9_follows_189 rfl (lv_at hl 0 rfl) ?_
              refine r_geti X hT 96 7 fk_9_107 rfl rfl (by decide) dX9_follows_190 ?_
              refine lv_bipush (v := 48) hx hb dX9_follows_193 (by decide) ?_
              refine lv_bipush (v := 57) hx hb dX9_follows_195 (by decide) ?_
              refine e_Vi (As := [.int (i17 96 7), .int 48, .int 57]) (rest := []) X Y hT hS (m_X9_isByte hR17 (i17 96 7) (48) (57) h20) mk_X9_isByte gm_1546 rfl rfl (by decide) hd_X9_isByte ⟨rfl, rfl⟩ ⟨Nat.le_of_ble_eq_true rfl, Nat.le_of_ble_eq_true rfl⟩ hl.1 rfl (Nat.le_of_ble_eq_true rfl) dX9_follows_197 ⟨Nat.zero_le _, Nat.zero_le _⟩ (fun r53 i53 g53 H locs hq hT hS => ?_)
              rcases hq with hq | hq
              ·
                obtain ⟨eh53, rfl, hf53_0⟩ := hq
                rw [(Prod.mk.inj eh53).1, (Prod.mk.inj eh53).2] at hT
                replace hf53_0 : (i17 96 7).toInt < (i17 96 6).toInt := hf53_0
                have h54 : rg 0 699 (i17 96 7) := ⟨by have := h20.1; omega, by have := (Rg_at hR17 96 6 0 700 (by decide) rfl).2; omega⟩
                have h55 : rg 0 699 (i2 96 7) := rg_fo e19 h54
                refine lv_if_eq (tgt := 274) hx hb dX9_follows_200 (by decide) (fun c56 => (x_eq (rg_k (by decide) : rg 1 1 1) (rg_k (by decide) : rg 0 0 0) (i_eq c56) (by decide)).elim) (fun c56 => ?_)
                refine lv_aload_n hx hb dX9_follows_203 rfl (lv_at hl 0 rfl) ?_
                refine lv_iconst (v := 2) hx hb dX9_follows_204 (by decide) ?_
                refine r_puti X hT hS 96 8 pk_9_124 rfl rfl rfl rfl (by decide) dX9_follows_205 (fun H locs i57 ei57 hT hS => ?_)
                have hR57 := Rg_put hR17 ei57 (-2147483648) 2147483647 rfl (rg_k (by decide) : rg 2 2 2) (by decide)
                have hF57 := Fr_puti hF18 ei57 (by decide)
                have hP57 : (i57 96 7).toInt ≤ (i57 96 6).toInt := by rw [z_k ei57 rfl (by decide), z_k ei57 rfl (by decide)]; exact hP17
                have hM57 : (i 96 7).toInt ≤ (i57 96 7).toInt := by rw [z_k ei57 rfl (by decide)]; exact hM17
                have hE57_12 : i57 96 12 = i 96 12 := z_k ei57 hE17_12 (by decide)
                have L208_58 : ∀ (n60_ : Nat)  (i59 : Nat → Nat → Int32) (g59 : Nat → Nat → Int64) (H : Heap) (locs : List Loc) (ls : Array Slot), Rg rA i59 → Fr [96] [96] i g (i59, g59) → ((i59 96 7).toInt ≤ (i59 96 6).toInt) → ((i 96 7).toInt ≤ (i59 96 7).toInt) → (i59 96 12 = i 96 12) → (i59 96 8 = 2) → TH D h cz i59 g59 H → va_S (hA h) s.heap H locs → lv_has ls 2 [(0, .ref (h 96))] → (700 - (i59 96 7).toInt).toNat < n60_ → W p l e ({ frames := 1, cells := 0, slots := 0, locals := 23 } : Room) s m args below meth c H locs 0 0 Q (F0 m 208 ls []) := by
                  intro n60_
                  induction n60_ with
                  | zero => intro  i59 g59 H locs ls hR59 hF59 hP59_0 hP59_1 hP59_2 hP59_3 hT hS hl hm60_; exact absurd hm60_ (Nat.not_lt_zero _)
                  | succ n60_ ih60_ =>
                    intro  i59 g59 H locs ls hR59 hF59 hP59_0 hP59_1 hP59_2 hP59_3 hT hS hl hm60_
                    refine lv_aload_n hx hb dX9_follows_208 rfl (lv_at hl 0 rfl) ?_
                    refine lv_aload_n hx hb dX9_follows_209 rfl (lv_at hl 0 rfl) ?_
                    refine r_geti X hT 96 7 fk_9_107 rfl rfl (by decide) dX9_follows_210 ?_
                    refine lv_bipush (v := 48) hx hb dX9_follows_213 (by decide) ?_
                    refine lv_bipush (v := 57) hx hb dX9_follows_215 (by decide) ?_
                    refine e_Vi (As := [.int (i59 96 7), .int 48, .int 57]) (rest := []) X Y hT hS (m_X9_isByte hR59 (i59 96 7) (48) (57) (Rg_at hR59 96 7 0 700 (by decide) rfl)) mk_X9_isByte gm_1546 rfl rfl (by decide) hd_X9_isByte ⟨rfl, rfl⟩ ⟨Nat.le_of_ble_eq_true rfl, Nat.le_of_ble_eq_true rfl⟩ hl.1 rfl (Nat.le_of_ble_eq_true rfl) dX9_follows_217 ⟨Nat.zero_le _, Nat.zero_le _⟩ (fun r61 i61 g61 H locs hq hT hS => ?_)
                    rcases hq with hq | hq
                    ·
                      obtain ⟨eh61, rfl, hf61_0⟩ := hq
                      rw [(Prod.mk.inj eh61).1, (Prod.mk.inj eh61).2] at hT
                      replace hf61_0 : (i59 96 7).toInt < (i59 96 6).toInt := hf61_0
                      have h62 : rg 0 699 (i59 96 7) := ⟨by have := (Rg_at hR59 96 7 0 700 (by decide) rfl).1; omega, by have := (Rg_at hR59 96 6 0 700 (by decide) rfl).2; omega⟩
                      refine lv_if_eq (tgt := 307) hx hb dX9_follows_220 (by decide) (fun c63 => (x_eq (rg_k (by decide) : rg 1 1 1) (rg_k (by decide) : rg 0 0 0) (i_eq c63) (by decide)).elim) (fun c63 => ?_)
                      refine lv_aload_n hx hb dX9_follows_223 rfl (lv_at hl 0 rfl) ?_
                      refine lv_aload_n hx hb dX9_follows_224 rfl (lv_at hl 0 rfl) ?_
                      refine r_geti X hT 96 10 fk_9_117 rfl rfl (by decide) dX9_follows_225 ?_
                      refine lv_ldc (v := 100000) hx hb X.2.2.2.1 (X.2.2.2.2.1 _ gm_1553) dX9_follows_228 ?_
                      have J258_65 : ∀ (x258_65_s0 : Int32) (H : Heap) (locs : List Loc) (ls : Array Slot), TH D h cz i59 g59 H → va_S (hA h) s.heap H locs → lv_has ls 2 [(0, .ref (h 96))] → W p l e ({ frames := 1, cells := 0, slots := 0, locals := 23 } : Room) s m args below meth c H locs 0 0 Q (F0 m 258 ls [.int x258_65_s0, .ref (h 96)]) := by
                        intro x258_65_s0 H locs ls hT hS hl
                        refine r_puti X hT hS 96 10 pk_9_117 rfl rfl rfl rfl (by decide) dX9_follows_258 (fun H locs i66 ei66 hT hS => ?_)
                        have hR66 := Rg_put hR59 ei66 (-2147483648) 2147483647 rfl (rg_top x258_65_s0) (by decide)
                        have hF66 := Fr_puti hF59 ei66 (by decide)
                        have hP66 : (i66 96 7).toInt ≤ (i66 96 6).toInt := by rw [z_k ei66 rfl (by decide), z_k ei66 rfl (by decide)]; exact hP59_0
                        have hM66 : (i 96 7).toInt ≤ (i66 96 7).toInt := by rw [z_k ei66 rfl (by decide)]; exact hP59_1
                        have hE66_12 : i66 96 12 = i 96 12 := z_k ei66 hP59_2 (by decide)
                        have hV66_8 : i66 96 8 = 2 := z_k ei66 hP59_3 (by decide)
                        refine lv_aload_n hx hb dX9_follows_261 rfl (lv_at hl 0 rfl) ?_
                        refine lv_dup hx hb dX9_follows_262 rfl ?_
                        refine r_geti X hT 96 7 fk_9_107 rfl rfl (by decide) dX9_follows_263 ?_
                        have e67 : (i66 96 7) = (i59 96 7) := (z_k ei66 rfl (by decide))
                        have h68 : rg 0 699 (i66 96 7) := rg_of e67 h62
                        refine lv_iconst (v := 1) hx hb dX9_follows_266 (by decide) ?_
                        refine q_iadd hx hb dX9_follows_267 (fun x69 ex69 => ?_)
                        obtain ⟨hx69, ax69⟩ := rg_add 1 700 ex69 h68 (rg_k (by decide) : rg 1 1 1) (by decide)
                        replace ax69 : x69.toInt = (i66 96 7).toInt + 1 := ax69
                        refine r_puti X hT hS 96 7 pk_9_107 rfl rfl rfl rfl (by decide) dX9_follows_268 (fun H locs i70 ei70 hT hS => ?_)
                        have hR70 := Rg_put hR66 ei70 0 700 rfl hx69 (by decide)
                        have hF70 := Fr_puti hF66 ei70 (by decide)
                        have e71 : (i66 96 6) = (i59 96 6) := (z_k ei66 rfl (by decide))
                        have h72 : rg 0 700 (i66 96 6) := rg_of e71 (Rg_at hR59 96 6 0 700 (by decide) rfl)
                        have hP70 : (i70 96 7).toInt ≤ (i70 96 6).toInt := by rw [z_s ei70, z_k ei70 rfl (by decide)]; have := h68.1; have := h68.2; have := hx69.1; have := hx69.2; have := h72.1; have := h72.2; have := congrArg Int32.toInt e19; have := congrArg Int32.toInt e67; have := congrArg Int32.toInt e71; have := hP66; have := ax69; omega
                        have hs70 : (i 96 7).toInt < (i70 96 7).toInt := by rw [z_s ei70]; have := hM66; have := ax69; omega
                        have hM70 : (i 96 7).toInt ≤ (i70 96 7).toInt := Int.le_of_lt hs70
                        have hE70_12 : i70 96 12 = i 96 12 := z_k ei70 hE66_12 (by decide)
                        have hV70_8 : i70 96 8 = 2 := z_k ei70 hV66_8 (by decide)
                        refine lv_goto (tgt := 208) hx hb dX9_follows_271 (by decide) ?_
                        exact ih60_ i70 g59 _ _ _ hR70 hF70 hP70 hM70 hE70_12 hV70_8 hT hS (lv_sub hl [0] rfl) (by rw [show i70 96 7 = x69 from (z_s ei70)]; exact m_up (ad_eq ax69 e67) hx69 (by decide) hm60_)
                      refine lv_icmp_le (tgt := 238) hx hb dX9_follows_230 (by decide) (fun c64 => ?_) (fun c64 => ?_)
                      ·
                        have q64 : (i59 96 10).toInt ≤ 100000 := i_le c64
                        have h73 : rg (-2147483648) 100000 (i59 96 10) := t_lex (-2147483648) 100000 (rg_top (i59 96 10)) (rg_k (by decide) : rg 100000 100000 100000) (i_le c64) (by decide)
                        refine lv_bipush (v := 10) hx hb dX9_follows_238 (by decide) ?_
                        refine lv_aload_n hx hb dX9_follows_240 rfl (lv_at hl 0 rfl) ?_
                        refine r_geti X hT 96 10 fk_9_117 rfl rfl (by decide) dX9_follows_241 ?_
                        refine q_imul hx hb dX9_follows_244 (fun x74 ex74 => ?_)
                        refine lv_aload_n hx hb dX9_follows_245 rfl (lv_at hl 0 rfl) ?_
                        refine r_getr X hT 96 5 101 fk_9_23 rfl rfl (by decide) dX9_follows_246 ?_
                        refine lv_aload_n hx hb dX9_follows_249 rfl (lv_at hl 0 rfl) ?_
                        refine r_geti X hT 96 7 fk_9_107 rfl rfl (by decide) dX9_follows_250 ?_
                        refine r_bald X hT 101 rfl (by decide) (v_in h62 (by decide)) dX9_follows_253 ?_
                        refine q_iadd hx hb dX9_follows_254 (fun x75 ex75 => ?_)
                        refine lv_bipush (v := 48) hx hb dX9_follows_255 (by decide) ?_
                        refine q_isub hx hb dX9_follows_257 (fun x76 ex76 => ?_)
                        exact J258_65 x76 _ _ _ hT hS (lv_sub hl [0] rfl)
                      ·
                        have q64 : 100000 < (i59 96 10).toInt := i_nle c64
                        have h77 : rg 100001 2147483647 (i59 96 10) := t_lty 100001 2147483647 (rg_k (by decide) : rg 100000 100000 100000) (rg_top (i59 96 10)) (i_nle c64) (by decide)
                        refine lv_ldc (v := 1000000) hx hb X.2.2.2.1 (X.2.2.2.2.1 _ gm_1554) dX9_follows_233 ?_
                        refine lv_goto (tgt := 258) hx hb dX9_follows_235 (by decide) ?_
                        exact J258_65 (1000000) _ _ _ hT hS (lv_sub hl [0] rfl)
                    ·
                      obtain ⟨eh61, rfl⟩ := hq
                      rw [(Prod.mk.inj eh61).1, (Prod.mk.inj eh61).2] at hT
                      refine lv_if_eq (tgt := 307) hx hb dX9_follows_220 (by decide) (fun c78 => ?_) (fun c78 => (x_ne (rg_k (by decide) : rg 0 0 0) (rg_k (by decide) : rg 0 0 0) (i_ne c78) (by decide)).elim)
                      exact hret _ _ _ _ _ _ dX9_follows_307 hT hS ⟨hR59, hF59, hP59_0, (prg_mk hP59_1 hP59_2 (Or.inl (by show ¬ (i59 96 8).toInt = 3; rw [show i59 96 8 = 2 from hP59_3]; decide))), hP59_2⟩
                exact L208_58 _ i57 g18 _ _ _ hR57 hF57 hP57 hM57 hE57_12 (z_s ei57) hT hS (lv_sub hl [0] rfl) (Nat.lt_succ_self _)
              ·
                obtain ⟨eh53, rfl⟩ := hq
                rw [(Prod.mk.inj eh53).1, (Prod.mk.inj eh53).2] at hT
                refine lv_if_eq (tgt := 274) hx hb dX9_follows_200 (by decide) (fun c79 => ?_) (fun c79 => (x_ne (rg_k (by decide) : rg 0 0 0) (rg_k (by decide) : rg 0 0 0) (i_ne c79) (by decide)).elim)
                have h80 : rg 0 699 (i17 96 7) := ⟨by have := h20.1; omega, by have := hP17; have := (Rg_at hR17 96 6 0 700 (by decide) rfl).2; omega⟩
                have h81 : rg 0 699 (i2 96 7) := rg_fo e19 h80
                refine lv_aload_n hx hb dX9_follows_274 rfl (lv_at hl 0 rfl) ?_
                refine lv_aload_n hx hb dX9_follows_275 rfl (lv_at hl 0 rfl) ?_
                refine r_getr X hT 96 5 101 fk_9_23 rfl rfl (by decide) dX9_follows_276 ?_
                refine lv_aload_n hx hb dX9_follows_279 rfl (lv_at hl 0 rfl) ?_
                refine r_geti X hT 96 7 fk_9_107 rfl rfl (by decide) dX9_follows_280 ?_
                refine r_bald X hT 101 rfl (by decide) (v_in h80 (by decide)) dX9_follows_283 ?_
                refine lv_bipush (v := 59) hx hb dX9_follows_284 (by decide) ?_
                have J294_83 : ∀ (x294_83_s0 : Int32) (H : Heap) (locs : List Loc) (ls : Array Slot), rg 3 4 x294_83_s0 → TH D h cz i17 g18 H → va_S (hA h) s.heap H locs → lv_has ls 2 [(0, .ref (h 96))] → W p l e ({ frames := 1, cells := 0, slots := 0, locals := 23 } : Room) s m args below meth c H locs 0 0 Q (F0 m 294 ls [.int x294_83_s0, .ref (h 96)]) := by
                  intro x294_83_s0 H locs ls hhx294_83_s0 hT hS hl
                  refine r_puti X hT hS 96 8 pk_9_124 rfl rfl rfl rfl (by decide) dX9_follows_294 (fun H locs i84 ei84 hT hS => ?_)
                  have hR84 := Rg_put hR17 ei84 (-2147483648) 2147483647 rfl hhx294_83_s0 (by decide)
                  have hF84 := Fr_puti hF18 ei84 (by decide)
                  have hP84 : (i84 96 7).toInt ≤ (i84 96 6).toInt := by rw [z_k ei84 rfl (by decide), z_k ei84 rfl (by decide)]; exact hP17
                  have hM84 : (i 96 7).toInt ≤ (i84 96 7).toInt := by rw [z_k ei84 rfl (by decide)]; exact hM17
                  have hE84_12 : i84 96 12 = i 96 12 := z_k ei84 hE17_12 (by decide)
                  refine lv_aload_n hx hb dX9_follows_297 rfl (lv_at hl 0 rfl) ?_
                  refine lv_dup hx hb dX9_follows_298 rfl ?_
                  refine r_geti X hT 96 7 fk_9_107 rfl rfl (by decide) dX9_follows_299 ?_
                  have e85 : (i84 96 7) = (i2 96 7) := (z_k ei84 (z_k ei17 (z_k ei16 rfl (by decide)) (by decide)) (by decide))
                  have h86 : rg 0 699 (i84 96 7) := rg_of e85 h81
                  refine lv_iconst (v := 1) hx hb dX9_follows_302 (by decide) ?_
                  refine q_iadd hx hb dX9_follows_303 (fun x87 ex87 => ?_)
                  obtain ⟨hx87, ax87⟩ := rg_add 1 700 ex87 h86 (rg_k (by decide) : rg 1 1 1) (by decide)
                  replace ax87 : x87.toInt = (i84 96 7).toInt + 1 := ax87
                  refine r_puti X hT hS 96 7 pk_9_107 rfl rfl rfl rfl (by decide) dX9_follows_304 (fun H locs i88 ei88 hT hS => ?_)
                  have hR88 := Rg_put hR84 ei88 0 700 rfl hx87 (by decide)
                  have hF88 := Fr_puti hF84 ei88 (by decide)
                  have e89 : (i84 96 6) = (i17 96 6) := (z_k ei84 rfl (by decide))
                  have h90 : rg 0 700 (i84 96 6) := rg_of e89 (Rg_at hR17 96 6 0 700 (by decide) rfl)
                  have hP88 : (i88 96 7).toInt ≤ (i88 96 6).toInt := by rw [z_s ei88, z_k ei88 rfl (by decide)]; have := h86.1; have := h86.2; have := hx87.1; have := hx87.2; have := h90.1; have := h90.2; have := congrArg Int32.toInt e19; have := congrArg Int32.toInt e85; have := congrArg Int32.toInt e89; have := hP84; have := ax87; omega
                  have hs88 : (i 96 7).toInt < (i88 96 7).toInt := by rw [z_s ei88]; have := hM84; have := ax87; omega
                  have hM88 : (i 96 7).toInt ≤ (i88 96 7).toInt := Int.le_of_lt hs88
                  have hE88_12 : i88 96 12 = i 96 12 := z_k ei88 hE84_12 (by decide)
                  have e91 : (i88 96 8) = x294_83_s0 := (z_k ei88 (z_s ei84) (by decide))
                  have h92 : rg 3 4 (i88 96 8) := rg_of e91 hhx294_83_s0
                  exact hret _ _ _ _ _ _ dX9_follows_307 hT hS ⟨hR88, hF88, hP88, (prg_mk hM88 hE88_12 (Or.inr (Or.inr hs88))), hE88_12⟩
                refine lv_icmp_ne (tgt := 293) hx hb dX9_follows_286 (by decide) (fun c82 => ?_) (fun c82 => ?_)
                ·
                  have q82 : ¬ (i17 101 (i17 96 7).toNatClampNeg).toInt = 59 := i_ne c82
                  refine lv_iconst (v := 4) hx hb dX9_follows_293 (by decide) ?_
                  exact J294_83 (4) _ _ _ (rg_w (rg_k (by decide) : rg 4 4 4) (by decide) : rg 3 4 4) hT hS (lv_sub hl [0] rfl)
                ·
                  have q82 : (i17 101 (i17 96 7).toNatClampNeg).toInt = 59 := i_eq c82
                  have h93 : rg 59 59 (i17 101 (i17 96 7).toNatClampNeg) := t_eqx 59 59 (Rg_at hR17 101 (i17 96 7).toNatClampNeg (-128) 127 (v_lt (v_in h80 (by decide))) rfl) (rg_k (by decide) : rg 59 59 59) (i_eq c82) (by decide)
                  refine lv_iconst (v := 3) hx hb dX9_follows_289 (by decide) ?_
                  refine lv_goto (tgt := 294) hx hb dX9_follows_290 (by decide) ?_
                  exact J294_83 (3) _ _ _ (rg_w (rg_k (by decide) : rg 3 3 3) (by decide) : rg 3 4 3) hT hS (lv_sub hl [0] rfl)
          ·
            have q21 : (i17 96 7).toInt = (i17 96 6).toInt := i_eq c21
            refine lv_aload_n hx hb dX9_follows_72 rfl (lv_at hl 0 rfl) ?_
            refine lv_iconst (v := 0) hx hb dX9_follows_73 (by decide) ?_
            refine r_puti X hT hS 96 8 pk_9_124 rfl rfl rfl rfl (by decide) dX9_follows_74 (fun H locs i94 ei94 hT hS => ?_)
            have hR94 := Rg_put hR17 ei94 (-2147483648) 2147483647 rfl (rg_k (by decide) : rg 0 0 0) (by decide)
            have hF94 := Fr_puti hF18 ei94 (by decide)
            have hP94 : (i94 96 7).toInt ≤ (i94 96 6).toInt := by rw [z_k ei94 rfl (by decide), z_k ei94 rfl (by decide)]; exact hP17
            have hM94 : (i 96 7).toInt ≤ (i94 96 7).toInt := by rw [z_k ei94 rfl (by decide)]; exact hM17
            have hE94_12 : i94 96 12 = i 96 12 := z_k ei94 hE17_12 (by decide)
            refine lv_goto (tgt := 307) hx hb dX9_follows_77 (by decide) ?_
            have e95 : (i94 96 8) = 0 := (z_s ei94)
            have h96 : rg 0 0 (i94 96 8) := rg_of e95 (rg_k (by decide) : rg 0 0 0)
            exact hret _ _ _ _ _ _ dX9_follows_307 hT hS ⟨hR94, hF94, hP94, (prg_mk hM94 hE94_12 (Or.inl (by show ¬ (i94 96 8).toInt = 3; rw [show i94 96 8 = 0 from (z_s ei94)]; decide))), hE94_12⟩
  exact L0_1 _ i g _ _ _ hR hF hp0 (Int.le_refl _ : (i 96 7).toInt ≤ (i 96 7).toInt) (rfl : i 96 12 = i 96 12) hT hS (lv_sub hl [0] rfl) (Nat.lt_succ_self _)
