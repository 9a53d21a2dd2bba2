def uWF (f : (Nat → Nat) × (Nat → Nat → Nat)) : List Value := ((((((((((((((([.null, .null, .null, .null, .null, .null, .null, .null, .null, .null, .null, .null, .int 0, .int 0, .int 0].set 0 (.ref (f.1 0))).set 1 (.ref (f.1 1))).set 2 (.ref (f.1 2))).set 3 (.ref (f.1 3))).set 4 (.ref (f.1 4))).set 5 (.ref (f.1 8))).set 6 (.ref (f.1 9))).set 7 (.ref (f.1 10))).set 8 (.ref (f.1 11))).set 9 (.ref (f.1 12))).set 10 (.ref (f.1 13))).set 11 (.ref (f.1 14))).set 12 (.int 1)).set 13 (.int 1)).set 14 (.int 0))
def uWT (cz : Nat → ClassId) (f : (Nat → Nat) × (Nat → Nat → Nat)) : va_W := ((((((((((((((((((([] : va_W) ++ tpW cz (f.1 0)  (f.2 0)) ++ stW cz (f.1 1)  (f.2 1)) ++ paW cz (f.1 2) (f.1 0) (f.1 1) (f.2 2)) ++ stW cz (f.1 3)  (f.2 3)) ++ ([((f.1 4), .inl (cz 4, 3, .inr (.inr (.inr (.inr (fun _ => none))))))] : va_W)) ++ stW cz (f.1 5)  (f.2 5)).set 25 ((f.1 4), .inl (cz 4, 3, .inr (.inr (.inr (.inr (va_up (fun _ => none) (Int32.toNatClampNeg 0) (some (f.1 5))))))))) ++ stW cz (f.1 6)  (f.2 6)).set 25 ((f.1 4), .inl (cz 4, 3, .inr (.inr (.inr (.inr (va_up (va_up (fun _ => none) (Int32.toNatClampNeg 0) (some (f.1 5))) (Int32.toNatClampNeg 1) (some (f.1 6))))))))) ++ stW cz (f.1 7)  (f.2 7)).set 25 ((f.1 4), .inl (cz 4, 3, .inr (.inr (.inr (.inr (va_up (va_up (va_up (fun _ => none) (Int32.toNatClampNeg 0) (some (f.1 5))) (Int32.toNatClampNeg 1) (some (f.1 6))) (Int32.toNatClampNeg 2) (some (f.1 7))))))))) ++ ([((f.1 8), .inl (cz 2, 3, .inl (fun _ => 0)))] : va_W)) ++ slW cz (f.1 9)  (f.2 9)) ++ coW cz (f.1 10) (f.1 3) (f.2 10)) ++ coW cz (f.1 11) (f.1 3) (f.2 11)) ++ plW cz (f.1 12) (f.1 3) (f.1 11) (f.2 12)) ++ odW cz (f.1 13) (f.1 3) (f.1 11) (f.2 13)) ++ guW cz (f.1 14) (f.1 3) (f.1 9) (f.2 14))
def uW (cz : Nat → ClassId) (h0 : Nat) (f : (Nat → Nat) × (Nat → Nat → Nat)) : va_W := (h0, .inr (8, uWF f)) :: uWT cz f
set_option maxRecDepth 100000 in
set_option maxHeartbeats 4000000 in
theorem ct_u {l : Launch} {D : va_G} {cz : Nat → ClassId} (h0 sz : Nat) : CtN ((Nat → Nat) × (Nat → Nat → Nat)) l yX8_init cX8_init 2 ({ frames := 2, cells := 95, slots := 3342, locals := 34 } : Room) D cz sz [(h0, .inr (8, [.null, .null, .null, .null, .null, .null, .null, .null, .null, .null, .null, .null, .int 0, .int 0, .int 0]))] (fun U => va_AO "UncutTale$Story" U ∧ va_AOA .int U ∧ va_Nw (.methodLinkNest "UncutTale" 18 yX6_init "UncutTale") U ∧ va_Nw (.methodLinkNest "UncutTale" 45 yX5_init "UncutTale") U ∧ va_Nw (.methodLinkNest "UncutTale" 9 yX7_init "UncutTale") U) [.ref h0] (fun f => uW cz h0 f) 95 3342 := by
  refine n_entry pn_X8_init rfl (Nat.le_of_ble_eq_true rfl) ?_
  intro p e s m args below meth c ls A hAe X hr hlk hin hP hD hA hl hS hN
  have hx := X.1
  have hb := X.2.1
  have hl : lv_has ls 2 [(0, .ref h0)] := hl
  obtain ⟨fs0, ef0⟩ : ∃ z : List Value, z = [.null, .null, .null, .null, .null, .null, .null, .null, .null, .null, .null, .null, .int 0, .int 0, .int 0] := ⟨_, rfl⟩
  obtain ⟨tl0, et0⟩ : ∃ z : va_W, z = [] := ⟨_, rfl⟩
  have hfl : fs0.length = 15 := by rw [ef0]; rfl
  have htl : tl0.length = 0 := by rw [et0]; rfl
  have hP : va_P D vwCl ((h0, .inr (8, fs0)) :: tl0) s.heap := by rw [ef0, et0]; exact hP
  have hD : va_D A ((h0, .inr (8, fs0)) :: tl0) := by rw [ef0, et0]; exact hD
  refine lv_aload_n hx hb dX8_init_0 rfl (lv_at hl 0 rfl) ?_
  refine n_obj X gm_131 gm_132 gm_oc hl.1 dX8_init_1 (Nat.le_of_ble_eq_true rfl) (Nat.le_of_ble_eq_true rfl) ?_
  refine lv_aload_n hx hb dX8_init_4 rfl (lv_at hl 0 rfl) ?_
  refine n_new (ci := 7) (fs := [.null, .int 0]) X hP hD hS hA tyX7 tyX7_ok iw_7 rfl gm_134 gm_135 gm_109 df_7 (Nat.le_of_ble_eq_true rfl) (Nat.le_of_ble_eq_true rfl) dX8_init_5 (fun q1 H hP hD hS => ?_)
  refine lv_dup hx hb dX8_init_8 rfl ?_
  refine n_callN (S := (Nat → Nat)) (wr := ((h0, .inr (8, fs0)) :: tl0)) (As := []) (rest := [.ref q1, .ref h0]) (w := fun f => tpW cz q1  f) X hP hD hS hA (ct_tp q1 _ ) (fun _ _ _ h => h) (fun _ _ => trivial) gm_138 gm_137 gm_109 hN.2.2.2.2 rfl hd_X7_init ⟨rfl, rfl⟩ ⟨Nat.le_of_ble_eq_true rfl, Nat.le_of_ble_eq_true rfl⟩ hl.1 rfl (Nat.le_of_ble_eq_true rfl) dX8_init_9 ⟨Nat.le_of_ble_eq_true rfl, Nat.le_of_ble_eq_true rfl⟩ (fun f2 H locs hP hD hS => ?_)
  obtain ⟨tl3, et3⟩ : ∃ z : va_W, z = tl0 ++ tpW cz q1  f2 := ⟨_, rfl⟩
  replace htl : tl3.length = 2 := by rw [et3, List.length_append, htl]; rfl
  have hP : va_P D vwCl ((h0, .inr (8, fs0)) :: tl3) H := by rw [et3]; exact hP
  have hD : va_D A ((h0, .inr (8, fs0)) :: tl3) := by rw [et3]; exact hD
  refine n_putF X hin hP hD hS 0 0 qk_8_10 rfl rfl rfl (by rw [hfl]; decide) dX8_init_12 (fun H locs hP hD hS => ?_)
  obtain ⟨fs4, ef4⟩ : ∃ z : List Value, z = fs0.set 0 (.ref q1) := ⟨_, rfl⟩
  have gf4_0 : fs4[0]? = some (.ref q1) := by rw [ef4]; exact ga_s hfl (by decide)
  replace hfl : fs4.length = 15 := by rw [ef4, List.length_set]; exact hfl
  have hP : va_P D vwCl ((h0, .inr (8, fs4)) :: tl3) H := by rw [ef4]; exact hP
  have hD : va_D A ((h0, .inr (8, fs4)) :: tl3) := by rw [ef4]; exact hD
  refine lv_aload_n hx hb dX8_init_15 rfl (lv_at hl 0 rfl) ?_
  refine n_new (ci := 6) (fs := [.null, .null, .null, .null, .null, .null, .null, .null, .null, .null, .int 0, .int 0, .int 0, .int 0, .int 0, .int 0, .int 0, .int 0]) X hP hD hS hA tyX6 tyX6_ok iw_6 rfl gm_150 gm_151 gm_110 df_6 (Nat.le_of_ble_eq_true rfl) (Nat.le_of_ble_eq_true rfl) dX8_init_16 (fun q5 H hP hD hS => ?_)
  refine lv_dup hx hb dX8_init_19 rfl ?_
  refine n_callN (S := (Nat → Nat)) (wr := ((h0, .inr (8, fs4)) :: tl3)) (As := []) (rest := [.ref q5, .ref h0]) (w := fun f => stW cz q5  f) X hP hD hS hA (ct_st q5 _ ) (fun _ _ _ h => h) (fun _ _ => trivial) gm_154 gm_153 gm_110 hN.2.2.1 rfl hd_X6_init ⟨rfl, rfl⟩ ⟨Nat.le_of_ble_eq_true rfl, Nat.le_of_ble_eq_true rfl⟩ hl.1 rfl (Nat.le_of_ble_eq_true rfl) dX8_init_20 ⟨Nat.le_of_ble_eq_true rfl, Nat.le_of_ble_eq_true rfl⟩ (fun f6 H locs hP hD hS => ?_)
  obtain ⟨tl7, et7⟩ : ∃ z : va_W, z = tl3 ++ stW cz q5  f6 := ⟨_, rfl⟩
  have gt7_2 : tl7[2]? = some (q5, .inr (6, [.ref (f6 0), .ref (f6 1), .ref (f6 2), .ref (f6 3), .ref (f6 4), .ref (f6 5), .ref (f6 6), .ref (f6 7), .ref (f6 8), .ref (f6 9), .int 0, .int 0, .int 0, .int 0, .int 0, .int 0, .int 0, .int 0])) := by rw [et7]; exact ga_r (p := 0) htl rfl
  replace htl : tl7.length = 13 := by rw [et7, List.length_append, htl]; rfl
  have hP : va_P D vwCl ((h0, .inr (8, fs4)) :: tl7) H := by rw [et7]; exact hP
  have hD : va_D A ((h0, .inr (8, fs4)) :: tl7) := by rw [et7]; exact hD
  refine n_putF X hin hP hD hS 0 1 qk_8_19 rfl rfl rfl (by rw [hfl]; decide) dX8_init_23 (fun H locs hP hD hS => ?_)
  obtain ⟨fs8, ef8⟩ : ∃ z : List Value, z = fs4.set 1 (.ref q5) := ⟨_, rfl⟩
  have gf8_0 : fs8[0]? = some (.ref q1) := by rw [ef8]; exact ga_n (by decide) gf4_0
  have gf8_1 : fs8[1]? = some (.ref q5) := by rw [ef8]; exact ga_s hfl (by decide)
  replace hfl : fs8.length = 15 := by rw [ef8, List.length_set]; exact hfl
  have hP : va_P D vwCl ((h0, .inr (8, fs8)) :: tl7) H := by rw [ef8]; exact hP
  have hD : va_D A ((h0, .inr (8, fs8)) :: tl7) := by rw [ef8]; exact hD
  refine lv_aload_n hx hb dX8_init_26 rfl (lv_at hl 0 rfl) ?_
  refine n_new (ci := 3) (fs := [.null, .null, .int 0, .int 0, .int 0, .int 0, .int 0, .int 0]) X hP hD hS hA tyX3 tyX3_ok iw_3 rfl gm_259 gm_260 gm_111 df_3 (Nat.le_of_ble_eq_true rfl) (Nat.le_of_ble_eq_true rfl) dX8_init_27 (fun q9 H hP hD hS => ?_)
  refine lv_dup hx hb dX8_init_30 rfl ?_
  refine lv_aload_n hx hb dX8_init_31 rfl (lv_at hl 0 rfl) ?_
  refine n_get (v := .ref q1) X hP 0 0 fk_8_10 rfl gf8_0 dX8_init_32 ?_
  refine lv_aload_n hx hb dX8_init_35 rfl (lv_at hl 0 rfl) ?_
  refine n_get (v := .ref q5) X hP 0 1 fk_8_19 rfl gf8_1 dX8_init_36 ?_
  refine n_callI (S := (Nat → Nat)) (wr := ((h0, .inr (8, fs8)) :: tl7)) (As := [.ref q1, .ref q5]) (rest := [.ref q9, .ref h0]) (w := fun f => paW cz q9 q1 q5 f) X hP hD hS hA (ct_pa q9 _ q1 q5) (fun _ _ _ h => h) (fun _ _ => trivial) gm_263 gm_262 gm_111 gm_261 rfl hd_X3_init ⟨rfl, rfl⟩ ⟨Nat.le_of_ble_eq_true rfl, Nat.le_of_ble_eq_true rfl⟩ hl.1 rfl (Nat.le_of_ble_eq_true rfl) dX8_init_39 ⟨Nat.le_of_ble_eq_true rfl, Nat.le_of_ble_eq_true rfl⟩ (fun f10 H locs hP hD hS => ?_)
  obtain ⟨tl11, et11⟩ : ∃ z : va_W, z = tl7 ++ paW cz q9 q1 q5 f10 := ⟨_, rfl⟩
  have gt11_2 : tl11[2]? = some (q5, .inr (6, [.ref (f6 0), .ref (f6 1), .ref (f6 2), .ref (f6 3), .ref (f6 4), .ref (f6 5), .ref (f6 6), .ref (f6 7), .ref (f6 8), .ref (f6 9), .int 0, .int 0, .int 0, .int 0, .int 0, .int 0, .int 0, .int 0])) := by rw [et11]; exact ga_l gt7_2
  replace htl : tl11.length = 14 := by rw [et11, List.length_append, htl]; rfl
  have hP : va_P D vwCl ((h0, .inr (8, fs8)) :: tl11) H := by rw [et11]; exact hP
  have hD : va_D A ((h0, .inr (8, fs8)) :: tl11) := by rw [et11]; exact hD
  refine n_putF X hin hP hD hS 0 2 qk_8_28 rfl rfl rfl (by rw [hfl]; decide) dX8_init_42 (fun H locs hP hD hS => ?_)
  obtain ⟨fs12, ef12⟩ : ∃ z : List Value, z = fs8.set 2 (.ref q9) := ⟨_, rfl⟩
  have gf12_0 : fs12[0]? = some (.ref q1) := by rw [ef12]; exact ga_n (by decide) gf8_0
  have gf12_1 : fs12[1]? = some (.ref q5) := by rw [ef12]; exact ga_n (by decide) gf8_1
  replace hfl : fs12.length = 15 := by rw [ef12, List.length_set]; exact hfl
  have hP : va_P D vwCl ((h0, .inr (8, fs12)) :: tl11) H := by rw [ef12]; exact hP
  have hD : va_D A ((h0, .inr (8, fs12)) :: tl11) := by rw [ef12]; exact hD
  refine lv_aload_n hx hb dX8_init_45 rfl (lv_at hl 0 rfl) ?_
  refine n_new (ci := 6) (fs := [.null, .null, .null, .null, .null, .null, .null, .null, .null, .null, .int 0, .int 0, .int 0, .int 0, .int 0, .int 0, .int 0, .int 0]) X hP hD hS hA tyX6 tyX6_ok iw_6 rfl gm_150 gm_151 gm_110 df_6 (Nat.le_of_ble_eq_true rfl) (Nat.le_of_ble_eq_true rfl) dX8_init_46 (fun q13 H hP hD hS => ?_)
  refine lv_dup hx hb dX8_init_49 rfl ?_
  refine n_callN (S := (Nat → Nat)) (wr := ((h0, .inr (8, fs12)) :: tl11)) (As := []) (rest := [.ref q13, .ref h0]) (w := fun f => stW cz q13  f) X hP hD hS hA (ct_st q13 _ ) (fun _ _ _ h => h) (fun _ _ => trivial) gm_154 gm_153 gm_110 hN.2.2.1 rfl hd_X6_init ⟨rfl, rfl⟩ ⟨Nat.le_of_ble_eq_true rfl, Nat.le_of_ble_eq_true rfl⟩ hl.1 rfl (Nat.le_of_ble_eq_true rfl) dX8_init_50 ⟨Nat.le_of_ble_eq_true rfl, Nat.le_of_ble_eq_true rfl⟩ (fun f14 H locs hP hD hS => ?_)
  obtain ⟨tl15, et15⟩ : ∃ z : va_W, z = tl11 ++ stW cz q13  f14 := ⟨_, rfl⟩
  have gt15_2 : tl15[2]? = some (q5, .inr (6, [.ref (f6 0), .ref (f6 1), .ref (f6 2), .ref (f6 3), .ref (f6 4), .ref (f6 5), .ref (f6 6), .ref (f6 7), .ref (f6 8), .ref (f6 9), .int 0, .int 0, .int 0, .int 0, .int 0, .int 0, .int 0, .int 0])) := by rw [et15]; exact ga_l gt11_2
  have gt15_14 : tl15[14]? = some (q13, .inr (6, [.ref (f14 0), .ref (f14 1), .ref (f14 2), .ref (f14 3), .ref (f14 4), .ref (f14 5), .ref (f14 6), .ref (f14 7), .ref (f14 8), .ref (f14 9), .int 0, .int 0, .int 0, .int 0, .int 0, .int 0, .int 0, .int 0])) := by rw [et15]; exact ga_r (p := 0) htl rfl
  replace htl : tl15.length = 25 := by rw [et15, List.length_append, htl]; rfl
  have hP : va_P D vwCl ((h0, .inr (8, fs12)) :: tl15) H := by rw [et15]; exact hP
  have hD : va_D A ((h0, .inr (8, fs12)) :: tl15) := by rw [et15]; exact hD
  refine n_putF X hin hP hD hS 0 3 qk_8_32 rfl rfl rfl (by rw [hfl]; decide) dX8_init_53 (fun H locs hP hD hS => ?_)
  obtain ⟨fs16, ef16⟩ : ∃ z : List Value, z = fs12.set 3 (.ref q13) := ⟨_, rfl⟩
  have gf16_0 : fs16[0]? = some (.ref q1) := by rw [ef16]; exact ga_n (by decide) gf12_0
  have gf16_1 : fs16[1]? = some (.ref q5) := by rw [ef16]; exact ga_n (by decide) gf12_1
  have gf16_3 : fs16[3]? = some (.ref q13) := by rw [ef16]; exact ga_s hfl (by decide)
  replace hfl : fs16.length = 15 := by rw [ef16, List.length_set]; exact hfl
  have hP : va_P D vwCl ((h0, .inr (8, fs16)) :: tl15) H := by rw [ef16]; exact hP
  have hD : va_D A ((h0, .inr (8, fs16)) :: tl15) := by rw [ef16]; exact hD
  refine lv_aload_n hx hb dX8_init_56 rfl (lv_at hl 0 rfl) ?_
  refine lv_iconst (v := 3) hx hb dX8_init_57 (by decide) ?_
  refine n_newq (C := "UncutTale$Story") (N' := 3) X hP hD hS hA 4 rfl gm_150 hN.1 (by decide) (by decide) (by decide) (Nat.le_of_ble_eq_true rfl) (Nat.le_of_ble_eq_true rfl) dX8_init_58 (fun q17 H hP hD hS => ?_)
  obtain ⟨tl18, et18⟩ : ∃ z : va_W, z = tl15 ++ ([(q17, .inl (cz 4, 3, .inr (.inr (.inr (.inr (fun _ => none))))))] : va_W) := ⟨_, rfl⟩
  have gt18_14 : tl18[14]? = some (q13, .inr (6, [.ref (f14 0), .ref (f14 1), .ref (f14 2), .ref (f14 3), .ref (f14 4), .ref (f14 5), .ref (f14 6), .ref (f14 7), .ref (f14 8), .ref (f14 9), .int 0, .int 0, .int 0, .int 0, .int 0, .int 0, .int 0, .int 0])) := by rw [et18]; exact ga_l gt15_14
  have gt18_25 : tl18[25]? = some (q17, .inl (cz 4, 3, .inr (.inr (.inr (.inr (fun _ => none)))))) := by rw [et18]; exact ga_r (p := 0) htl rfl
  replace htl : tl18.length = 26 := by rw [et18, List.length_append, htl]; rfl
  have hP : va_P D vwCl ((h0, .inr (8, fs16)) :: tl18) H := by rw [et18]; exact hP
  have hD : va_D A ((h0, .inr (8, fs16)) :: tl18) := by rw [et18]; exact hD
  refine n_putF X hin hP hD hS 0 4 qk_8_35 rfl rfl rfl (by rw [hfl]; decide) dX8_init_61 (fun H locs hP hD hS => ?_)
  obtain ⟨fs19, ef19⟩ : ∃ z : List Value, z = fs16.set 4 (.ref q17) := ⟨_, rfl⟩
  have gf19_0 : fs19[0]? = some (.ref q1) := by rw [ef19]; exact ga_n (by decide) gf16_0
  have gf19_1 : fs19[1]? = some (.ref q5) := by rw [ef19]; exact ga_n (by decide) gf16_1
  have gf19_3 : fs19[3]? = some (.ref q13) := by rw [ef19]; exact ga_n (by decide) gf16_3
  have gf19_4 : fs19[4]? = some (.ref q17) := by rw [ef19]; exact ga_s hfl (by decide)
  replace hfl : fs19.length = 15 := by rw [ef19, List.length_set]; exact hfl
  have hP : va_P D vwCl ((h0, .inr (8, fs19)) :: tl18) H := by rw [ef19]; exact hP
  have hD : va_D A ((h0, .inr (8, fs19)) :: tl18) := by rw [ef19]; exact hD
  refine lv_iconst (v := 0) hx hb dX8_init_64 (by decide) ?_
  refine lv_istore_n (lv' := [(1, .int 0), (0, .ref h0)]) hx hb dX8_init_65 rfl hl (by decide) rfl (fun ls hl => ?_)
  refine lv_iload_n hx hb dX8_init_66 rfl (lv_at hl 0 rfl) ?_
  refine lv_iconst (v := 3) hx hb dX8_init_67 (by decide) ?_
  refine lv_icmp_ge (tgt := 90) hx hb dX8_init_68 (by decide) (fun c => absurd c (by decide)) (fun _ => ?_)
  refine lv_aload_n hx hb dX8_init_71 rfl (lv_at hl 1 rfl) ?_
  refine n_get (v := .ref q17) X hP 0 4 fk_8_35 rfl gf19_4 dX8_init_72 ?_
  refine lv_iload_n hx hb dX8_init_75 rfl (lv_at hl 0 rfl) ?_
  refine n_new (ci := 6) (fs := [.null, .null, .null, .null, .null, .null, .null, .null, .null, .null, .int 0, .int 0, .int 0, .int 0, .int 0, .int 0, .int 0, .int 0]) X hP hD hS hA tyX6 tyX6_ok iw_6 rfl gm_150 gm_151 gm_110 df_6 (Nat.le_of_ble_eq_true rfl) (Nat.le_of_ble_eq_true rfl) dX8_init_76 (fun q20 H hP hD hS => ?_)
  refine lv_dup hx hb dX8_init_79 rfl ?_
  refine n_callN (S := (Nat → Nat)) (wr := ((h0, .inr (8, fs19)) :: tl18)) (As := []) (rest := [.ref q20, .int 0, .ref q17]) (w := fun f => stW cz q20  f) X hP hD hS hA (ct_st q20 _ ) (fun _ _ _ h => h) (fun _ _ => trivial) gm_154 gm_153 gm_110 hN.2.2.1 rfl hd_X6_init ⟨rfl, rfl⟩ ⟨Nat.le_of_ble_eq_true rfl, Nat.le_of_ble_eq_true rfl⟩ hl.1 rfl (Nat.le_of_ble_eq_true rfl) dX8_init_80 ⟨Nat.le_of_ble_eq_true rfl, Nat.le_of_ble_eq_true rfl⟩ (fun f21 H locs hP hD hS => ?_)
  obtain ⟨tl22, et22⟩ : ∃ z : va_W, z = tl18 ++ stW cz q20  f21 := ⟨_, rfl⟩
  have gt22_25 : tl22[25]? = some (q17, .inl (cz 4, 3, .inr (.inr (.inr (.inr (fun _ => none)))))) := by rw [et22]; exact ga_l gt18_25
  have gt22_26 : tl22[26]? = some (q20, .inr (6, [.ref (f21 0), .ref (f21 1), .ref (f21 2), .ref (f21 3), .ref (f21 4), .ref (f21 5), .ref (f21 6), .ref (f21 7), .ref (f21 8), .ref (f21 9), .int 0, .int 0, .int 0, .int 0, .int 0, .int 0, .int 0, .int 0])) := by rw [et22]; exact ga_r (p := 0) htl rfl
  replace htl : tl22.length = 37 := by rw [et22, List.length_append, htl]; rfl
  have hP : va_P D vwCl ((h0, .inr (8, fs19)) :: tl22) H := by rw [et22]; exact hP
  have hD : va_D A ((h0, .inr (8, fs19)) :: tl22) := by rw [et22]; exact hD
  refine va_astq hx hb X.2.2.2.2.2 hP hD hS 26 4 27 6 (cA := cz 4) (r := (RX6, TX6, 18)) (n := 3) (f := (fun _ => none)) gt22_25 rfl gt22_26 rfl (v_in (rg_k (by decide) : rg 0 0 0) (by decide)) dX8_init_83 (fun H locs hP hD hS => ?_)
  obtain ⟨tl23, et23⟩ : ∃ z : va_W, z = tl22.set 25 (q17, .inl (cz 4, 3, .inr (.inr (.inr (.inr (va_up (fun _ => none) (Int32.toNatClampNeg 0) (some q20))))))) := ⟨_, rfl⟩
  have gt23_26 : tl23[26]? = some (q20, .inr (6, [.ref (f21 0), .ref (f21 1), .ref (f21 2), .ref (f21 3), .ref (f21 4), .ref (f21 5), .ref (f21 6), .ref (f21 7), .ref (f21 8), .ref (f21 9), .int 0, .int 0, .int 0, .int 0, .int 0, .int 0, .int 0, .int 0])) := by rw [et23]; exact ga_n (by decide) gt22_26
  have gt23_25 : tl23[25]? = some (q17, .inl (cz 4, 3, .inr (.inr (.inr (.inr (va_up (fun _ => none) (Int32.toNatClampNeg 0) (some q20))))))) := by rw [et23]; exact ga_s htl (by decide)
  replace htl : tl23.length = 37 := by rw [et23, List.length_set]; exact htl
  have hP : va_P D vwCl ((h0, .inr (8, fs19)) :: tl23) H := by rw [et23]; exact hP
  have hD : va_D A ((h0, .inr (8, fs19)) :: tl23) := by rw [et23]; exact hD
  refine lv_iinc (v := 1) (lv' := [(1, .int 1), (0, .ref h0)]) hx hb dX8_init_84 hl (k := 0) rfl (by decide) (by decide) rfl (fun ls hl => ?_)
  refine lv_goto (tgt := 66) hx hb dX8_init_87 (by decide) ?_
  refine lv_iload_n hx hb dX8_init_66 rfl (lv_at hl 0 rfl) ?_
  refine lv_iconst (v := 3) hx hb dX8_init_67 (by decide) ?_
  refine lv_icmp_ge (tgt := 90) hx hb dX8_init_68 (by decide) (fun c => absurd c (by decide)) (fun _ => ?_)
  refine lv_aload_n hx hb dX8_init_71 rfl (lv_at hl 1 rfl) ?_
  refine n_get (v := .ref q17) X hP 0 4 fk_8_35 rfl gf19_4 dX8_init_72 ?_
  refine lv_iload_n hx hb dX8_init_75 rfl (lv_at hl 0 rfl) ?_
  refine n_new (ci := 6) (fs := [.null, .null, .null, .null, .null, .null, .null, .null, .null, .null, .int 0, .int 0, .int 0, .int 0, .int 0, .int 0, .int 0, .int 0]) X hP hD hS hA tyX6 tyX6_ok iw_6 rfl gm_150 gm_151 gm_110 df_6 (Nat.le_of_ble_eq_true rfl) (Nat.le_of_ble_eq_true rfl) dX8_init_76 (fun q24 H hP hD hS => ?_)
  refine lv_dup hx hb dX8_init_79 rfl ?_
  refine n_callN (S := (Nat → Nat)) (wr := ((h0, .inr (8, fs19)) :: tl23)) (As := []) (rest := [.ref q24, .int 1, .ref q17]) (w := fun f => stW cz q24  f) X hP hD hS hA (ct_st q24 _ ) (fun _ _ _ h => h) (fun _ _ => trivial) gm_154 gm_153 gm_110 hN.2.2.1 rfl hd_X6_init ⟨rfl, rfl⟩ ⟨Nat.le_of_ble_eq_true rfl, Nat.le_of_ble_eq_true rfl⟩ hl.1 rfl (Nat.le_of_ble_eq_true rfl) dX8_init_80 ⟨Nat.le_of_ble_eq_true rfl, Nat.le_of_ble_eq_true rfl⟩ (fun f25 H locs hP hD hS => ?_)
  obtain ⟨tl26, et26⟩ : ∃ z : va_W, z = tl23 ++ stW cz q24  f25 := ⟨_, rfl⟩
  have gt26_25 : tl26[25]? = some (q17, .inl (cz 4, 3, .inr (.inr (.inr (.inr (va_up (fun _ => none) (Int32.toNatClampNeg 0) (some q20))))))) := by rw [et26]; exact ga_l gt23_25
  have gt26_26 : tl26[26]? = some (q20, .inr (6, [.ref (f21 0), .ref (f21 1), .ref (f21 2), .ref (f21 3), .ref (f21 4), .ref (f21 5), .ref (f21 6), .ref (f21 7), .ref (f21 8), .ref (f21 9), .int 0, .int 0, .int 0, .int 0, .int 0, .int 0, .int 0, .int 0])) := by rw [et26]; exact ga_l gt23_26
  have gt26_37 : tl26[37]? = some (q24, .inr (6, [.ref (f25 0), .ref (f25 1), .ref (f25 2), .ref (f25 3), .ref (f25 4), .ref (f25 5), .ref (f25 6), .ref (f25 7), .ref (f25 8), .ref (f25 9), .int 0, .int 0, .int 0, .int 0, .int 0, .int 0, .int 0, .int 0])) := by rw [et26]; exact ga_r (p := 0) htl rfl
  replace htl : tl26.length = 48 := by rw [et26, List.length_append, htl]; rfl
  have hP : va_P D vwCl ((h0, .inr (8, fs19)) :: tl26) H := by rw [et26]; exact hP
  have hD : va_D A ((h0, .inr (8, fs19)) :: tl26) := by rw [et26]; exact hD
  refine va_astq hx hb X.2.2.2.2.2 hP hD hS 26 4 38 6 (cA := cz 4) (r := (RX6, TX6, 18)) (n := 3) (f := (va_up (fun _ => none) (Int32.toNatClampNeg 0) (some q20))) gt26_25 rfl gt26_37 rfl (v_in (rg_k (by decide) : rg 1 1 1) (by decide)) dX8_init_83 (fun H locs hP hD hS => ?_)
  obtain ⟨tl27, et27⟩ : ∃ z : va_W, z = tl26.set 25 (q17, .inl (cz 4, 3, .inr (.inr (.inr (.inr (va_up (va_up (fun _ => none) (Int32.toNatClampNeg 0) (some q20)) (Int32.toNatClampNeg 1) (some q24))))))) := ⟨_, rfl⟩
  have gt27_37 : tl27[37]? = some (q24, .inr (6, [.ref (f25 0), .ref (f25 1), .ref (f25 2), .ref (f25 3), .ref (f25 4), .ref (f25 5), .ref (f25 6), .ref (f25 7), .ref (f25 8), .ref (f25 9), .int 0, .int 0, .int 0, .int 0, .int 0, .int 0, .int 0, .int 0])) := by rw [et27]; exact ga_n (by decide) gt26_37
  have gt27_25 : tl27[25]? = some (q17, .inl (cz 4, 3, .inr (.inr (.inr (.inr (va_up (va_up (fun _ => none) (Int32.toNatClampNeg 0) (some q20)) (Int32.toNatClampNeg 1) (some q24))))))) := by rw [et27]; exact ga_s htl (by decide)
  replace htl : tl27.length = 48 := by rw [et27, List.length_set]; exact htl
  have hP : va_P D vwCl ((h0, .inr (8, fs19)) :: tl27) H := by rw [et27]; exact hP
  have hD : va_D A ((h0, .inr (8, fs19)) :: tl27) := by rw [et27]; exact hD
  refine lv_iinc (v := 2) (lv' := [(1, .int 2), (0, .ref h0)]) hx hb dX8_init_84 hl (k := 0) rfl (by decide) (by decide) rfl (fun ls hl => ?_)
  refine lv_goto (tgt := 66) hx hb dX8_init_87 (by decide) ?_
  refine lv_iload_n hx hb dX8_init_66 rfl (lv_at hl 0 rfl) ?_
  refine lv_iconst (v := 3) hx hb dX8_init_67 (by decide) ?_
  refine lv_icmp_ge (tgt := 90) hx hb dX8_init_68 (by decide) (fun c => absurd c (by decide)) (fun _ => ?_)
  refine lv_aload_n hx hb dX8_init_71 rfl (lv_at hl 1 rfl) ?_
  refine n_get (v := .ref q17) X hP 0 4 fk_8_35 rfl gf19_4 dX8_init_72 ?_
  refine lv_iload_n hx hb dX8_init_75 rfl (lv_at hl 0 rfl) ?_
  refine n_new (ci := 6) (fs := [.null, .null, .null, .null, .null, .null, .null, .null, .null, .null, .int 0, .int 0, .int 0, .int 0, .int 0, .int 0, .int 0, .int 0]) X hP hD hS hA tyX6 tyX6_ok iw_6 rfl gm_150 gm_151 gm_110 df_6 (Nat.le_of_ble_eq_true rfl) (Nat.le_of_ble_eq_true rfl) dX8_init_76 (fun q28 H hP hD hS => ?_)
  refine lv_dup hx hb dX8_init_79 rfl ?_
  refine n_callN (S := (Nat → Nat)) (wr := ((h0, .inr (8, fs19)) :: tl27)) (As := []) (rest := [.ref q28, .int 2, .ref q17]) (w := fun f => stW cz q28  f) X hP hD hS hA (ct_st q28 _ ) (fun _ _ _ h => h) (fun _ _ => trivial) gm_154 gm_153 gm_110 hN.2.2.1 rfl hd_X6_init ⟨rfl, rfl⟩ ⟨Nat.le_of_ble_eq_true rfl, Nat.le_of_ble_eq_true rfl⟩ hl.1 rfl (Nat.le_of_ble_eq_true rfl) dX8_init_80 ⟨Nat.le_of_ble_eq_true rfl, Nat.le_of_ble_eq_true rfl⟩ (fun f29 H locs hP hD hS => ?_)
  obtain ⟨tl30, et30⟩ : ∃ z : va_W, z = tl27 ++ stW cz q28  f29 := ⟨_, rfl⟩
  have gt30_25 : tl30[25]? = some (q17, .inl (cz 4, 3, .inr (.inr (.inr (.inr (va_up (va_up (fun _ => none) (Int32.toNatClampNeg 0) (some q20)) (Int32.toNatClampNeg 1) (some q24))))))) := by rw [et30]; exact ga_l gt27_25
  have gt30_37 : tl30[37]? = some (q24, .inr (6, [.ref (f25 0), .ref (f25 1), .ref (f25 2), .ref (f25 3), .ref (f25 4), .ref (f25 5), .ref (f25 6), .ref (f25 7), .ref (f25 8), .ref (f25 9), .int 0, .int 0, .int 0, .int 0, .int 0, .int 0, .int 0, .int 0])) := by rw [et30]; exact ga_l gt27_37
  have gt30_48 : tl30[48]? = some (q28, .inr (6, [.ref (f29 0), .ref (f29 1), .ref (f29 2), .ref (f29 3), .ref (f29 4), .ref (f29 5), .ref (f29 6), .ref (f29 7), .ref (f29 8), .ref (f29 9), .int 0, .int 0, .int 0, .int 0, .int 0, .int 0, .int 0, .int 0])) := by rw [et30]; exact ga_r (p := 0) htl rfl
  replace htl : tl30.length = 59 := by rw [et30, List.length_append, htl]; rfl
  have hP : va_P D vwCl ((h0, .inr (8, fs19)) :: tl30) H := by rw [et30]; exact hP
  have hD : va_D A ((h0, .inr (8, fs19)) :: tl30) := by rw [et30]; exact hD
  refine va_astq hx hb X.2.2.2.2.2 hP hD hS 26 4 49 6 (cA := cz 4) (r := (RX6, TX6, 18)) (n := 3) (f := (va_up (va_up (fun _ => none) (Int32.toNatClampNeg 0) (some q20)) (Int32.toNatClampNeg 1) (some q24))) gt30_25 rfl gt30_48 rfl (v_in (rg_k (by decide) : rg 2 2 2) (by decide)) dX8_init_83 (fun H locs hP hD hS => ?_)
  obtain ⟨tl31, et31⟩ : ∃ z : va_W, z = tl30.set 25 (q17, .inl (cz 4, 3, .inr (.inr (.inr (.inr (va_up (va_up (va_up (fun _ => none) (Int32.toNatClampNeg 0) (some q20)) (Int32.toNatClampNeg 1) (some q24)) (Int32.toNatClampNeg 2) (some q28))))))) := ⟨_, rfl⟩
  have gt31_48 : tl31[48]? = some (q28, .inr (6, [.ref (f29 0), .ref (f29 1), .ref (f29 2), .ref (f29 3), .ref (f29 4), .ref (f29 5), .ref (f29 6), .ref (f29 7), .ref (f29 8), .ref (f29 9), .int 0, .int 0, .int 0, .int 0, .int 0, .int 0, .int 0, .int 0])) := by rw [et31]; exact ga_n (by decide) gt30_48
  have gt31_25 : tl31[25]? = some (q17, .inl (cz 4, 3, .inr (.inr (.inr (.inr (va_up (va_up (va_up (fun _ => none) (Int32.toNatClampNeg 0) (some q20)) (Int32.toNatClampNeg 1) (some q24)) (Int32.toNatClampNeg 2) (some q28))))))) := by rw [et31]; exact ga_s htl (by decide)
  replace htl : tl31.length = 59 := by rw [et31, List.length_set]; exact htl
  have hP : va_P D vwCl ((h0, .inr (8, fs19)) :: tl31) H := by rw [et31]; exact hP
  have hD : va_D A ((h0, .inr (8, fs19)) :: tl31) := by rw [et31]; exact hD
  refine lv_iinc (v := 3) (lv' := [(1, .int 3), (0, .ref h0)]) hx hb dX8_init_84 hl (k := 0) rfl (by decide) (by decide) rfl (fun ls hl => ?_)
  refine lv_goto (tgt := 66) hx hb dX8_init_87 (by decide) ?_
  refine lv_iload_n hx hb dX8_init_66 rfl (lv_at hl 0 rfl) ?_
  refine lv_iconst (v := 3) hx hb dX8_init_67 (by decide) ?_
  refine lv_icmp_ge (tgt := 90) hx hb dX8_init_68 (by decide) (fun _ => ?_) (fun c => absurd (by decide) c)
  refine lv_aload_n hx hb dX8_init_90 rfl (lv_at hl 1 rfl) ?_
  refine lv_iconst (v := 3) hx hb dX8_init_91 (by decide) ?_
  refine n_newa (ty := .boolean) (N' := 3) (a0 := (3, .inl (fun _ => 0))) X hP hD hS hA 2 rfl rfl gm_309 (fun _ => rfl) (by decide) (by decide) (by decide) (Nat.le_of_ble_eq_true rfl) (Nat.le_of_ble_eq_true rfl) dX8_init_92 (fun q32 H hP hD hS => ?_)
  obtain ⟨tl33, et33⟩ : ∃ z : va_W, z = tl31 ++ ([(q32, .inl (cz 2, 3, .inl (fun _ => 0)))] : va_W) := ⟨_, rfl⟩
  have gt33_25 : tl33[25]? = some (q17, .inl (cz 4, 3, .inr (.inr (.inr (.inr (va_up (va_up (va_up (fun _ => none) (Int32.toNatClampNeg 0) (some q20)) (Int32.toNatClampNeg 1) (some q24)) (Int32.toNatClampNeg 2) (some q28))))))) := by rw [et33]; exact ga_l gt31_25
  have gt33_48 : tl33[48]? = some (q28, .inr (6, [.ref (f29 0), .ref (f29 1), .ref (f29 2), .ref (f29 3), .ref (f29 4), .ref (f29 5), .ref (f29 6), .ref (f29 7), .ref (f29 8), .ref (f29 9), .int 0, .int 0, .int 0, .int 0, .int 0, .int 0, .int 0, .int 0])) := by rw [et33]; exact ga_l gt31_48
  replace htl : tl33.length = 60 := by rw [et33, List.length_append, htl]; rfl
  have hP : va_P D vwCl ((h0, .inr (8, fs19)) :: tl33) H := by rw [et33]; exact hP
  have hD : va_D A ((h0, .inr (8, fs19)) :: tl33) := by rw [et33]; exact hD
  refine n_putF X hin hP hD hS 0 5 qk_8_39 rfl rfl rfl (by rw [hfl]; decide) dX8_init_94 (fun H locs hP hD hS => ?_)
  obtain ⟨fs34, ef34⟩ : ∃ z : List Value, z = fs19.set 5 (.ref q32) := ⟨_, rfl⟩
  have gf34_0 : fs34[0]? = some (.ref q1) := by rw [ef34]; exact ga_n (by decide) gf19_0
  have gf34_1 : fs34[1]? = some (.ref q5) := by rw [ef34]; exact ga_n (by decide) gf19_1
  have gf34_3 : fs34[3]? = some (.ref q13) := by rw [ef34]; exact ga_n (by decide) gf19_3
  have gf34_4 : fs34[4]? = some (.ref q17) := by rw [ef34]; exact ga_n (by decide) gf19_4
  replace hfl : fs34.length = 15 := by rw [ef34, List.length_set]; exact hfl
  have hP : va_P D vwCl ((h0, .inr (8, fs34)) :: tl33) H := by rw [ef34]; exact hP
  have hD : va_D A ((h0, .inr (8, fs34)) :: tl33) := by rw [ef34]; exact hD
  refine lv_aload_n hx hb dX8_init_97 rfl (lv_at hl 1 rfl) ?_
  refine n_new (ci := 5) (fs := [.null, .null, .null]) X hP hD hS hA tyX5 tyX5_ok iw_5 rfl gm_293 gm_294 gm_112 df_5 (Nat.le_of_ble_eq_true rfl) (Nat.le_of_ble_eq_true rfl) dX8_init_98 (fun q35 H hP hD hS => ?_)
  refine lv_dup hx hb dX8_init_101 rfl ?_
  refine n_callN (S := (Nat → Nat)) (wr := ((h0, .inr (8, fs34)) :: tl33)) (As := []) (rest := [.ref q35, .ref h0]) (w := fun f => slW cz q35  f) X hP hD hS hA (ct_sl q35 _ ) (fun _ _ _ h => h) (fun _ _ => trivial) gm_297 gm_296 gm_112 hN.2.2.2.1 rfl hd_X5_init ⟨rfl, rfl⟩ ⟨Nat.le_of_ble_eq_true rfl, Nat.le_of_ble_eq_true rfl⟩ hl.1 rfl (Nat.le_of_ble_eq_true rfl) dX8_init_102 ⟨Nat.le_of_ble_eq_true rfl, Nat.le_of_ble_eq_true rfl⟩ (fun f36 H locs hP hD hS => ?_)
  obtain ⟨tl37, et37⟩ : ∃ z : va_W, z = tl33 ++ slW cz q35  f36 := ⟨_, rfl⟩
  have gt37_25 : tl37[25]? = some (q17, .inl (cz 4, 3, .inr (.inr (.inr (.inr (va_up (va_up (va_up (fun _ => none) (Int32.toNatClampNeg 0) (some q20)) (Int32.toNatClampNeg 1) (some q24)) (Int32.toNatClampNeg 2) (some q28))))))) := by rw [et37]; exact ga_l gt33_25
  have gt37_48 : tl37[48]? = some (q28, .inr (6, [.ref (f29 0), .ref (f29 1), .ref (f29 2), .ref (f29 3), .ref (f29 4), .ref (f29 5), .ref (f29 6), .ref (f29 7), .ref (f29 8), .ref (f29 9), .int 0, .int 0, .int 0, .int 0, .int 0, .int 0, .int 0, .int 0])) := by rw [et37]; exact ga_l gt33_48
  replace htl : tl37.length = 64 := by rw [et37, List.length_append, htl]; rfl
  have hP : va_P D vwCl ((h0, .inr (8, fs34)) :: tl37) H := by rw [et37]; exact hP
  have hD : va_D A ((h0, .inr (8, fs34)) :: tl37) := by rw [et37]; exact hD
  refine n_putF X hin hP hD hS 0 6 qk_8_46 rfl rfl rfl (by rw [hfl]; decide) dX8_init_105 (fun H locs hP hD hS => ?_)
  obtain ⟨fs38, ef38⟩ : ∃ z : List Value, z = fs34.set 6 (.ref q35) := ⟨_, rfl⟩
  have gf38_0 : fs38[0]? = some (.ref q1) := by rw [ef38]; exact ga_n (by decide) gf34_0
  have gf38_1 : fs38[1]? = some (.ref q5) := by rw [ef38]; exact ga_n (by decide) gf34_1
  have gf38_3 : fs38[3]? = some (.ref q13) := by rw [ef38]; exact ga_n (by decide) gf34_3
  have gf38_4 : fs38[4]? = some (.ref q17) := by rw [ef38]; exact ga_n (by decide) gf34_4
  have gf38_6 : fs38[6]? = some (.ref q35) := by rw [ef38]; exact ga_s hfl (by decide)
  replace hfl : fs38.length = 15 := by rw [ef38, List.length_set]; exact hfl
  have hP : va_P D vwCl ((h0, .inr (8, fs38)) :: tl37) H := by rw [ef38]; exact hP
  have hD : va_D A ((h0, .inr (8, fs38)) :: tl37) := by rw [ef38]; exact hD
  refine lv_aload_n hx hb dX8_init_108 rfl (lv_at hl 1 rfl) ?_
  refine n_new (ci := 0) (fs := [.null, .null, .null, .null, .null, .null, .null, .int 0, .int 0, .int 0]) X hP hD hS hA tyX0 tyX0_ok iw_0 rfl gm_311 gm_312 gm_113 df_0 (Nat.le_of_ble_eq_true rfl) (Nat.le_of_ble_eq_true rfl) dX8_init_109 (fun q39 H hP hD hS => ?_)
  refine lv_dup hx hb dX8_init_112 rfl ?_
  refine lv_aload_n hx hb dX8_init_113 rfl (lv_at hl 1 rfl) ?_
  refine n_get (v := .ref q13) X hP 0 3 fk_8_32 rfl gf38_3 dX8_init_114 ?_
  refine n_callI (S := (Nat → Nat)) (wr := ((h0, .inr (8, fs38)) :: tl37)) (As := [.ref q13]) (rest := [.ref q39, .ref h0]) (w := fun f => coW cz q39 q13 f) X hP hD hS hA (ct_co q39 _ q13) (fun _ _ _ h => h) (fun _ _ => trivial) gm_315 gm_314 gm_113 gm_313 rfl hd_X0_init ⟨rfl, rfl⟩ ⟨Nat.le_of_ble_eq_true rfl, Nat.le_of_ble_eq_true rfl⟩ hl.1 rfl (Nat.le_of_ble_eq_true rfl) dX8_init_117 ⟨Nat.le_of_ble_eq_true rfl, Nat.le_of_ble_eq_true rfl⟩ (fun f40 H locs hP hD hS => ?_)
  obtain ⟨tl41, et41⟩ : ∃ z : va_W, z = tl37 ++ coW cz q39 q13 f40 := ⟨_, rfl⟩
  have gt41_25 : tl41[25]? = some (q17, .inl (cz 4, 3, .inr (.inr (.inr (.inr (va_up (va_up (va_up (fun _ => none) (Int32.toNatClampNeg 0) (some q20)) (Int32.toNatClampNeg 1) (some q24)) (Int32.toNatClampNeg 2) (some q28))))))) := by rw [et41]; exact ga_l gt37_25
  have gt41_48 : tl41[48]? = some (q28, .inr (6, [.ref (f29 0), .ref (f29 1), .ref (f29 2), .ref (f29 3), .ref (f29 4), .ref (f29 5), .ref (f29 6), .ref (f29 7), .ref (f29 8), .ref (f29 9), .int 0, .int 0, .int 0, .int 0, .int 0, .int 0, .int 0, .int 0])) := by rw [et41]; exact ga_l gt37_48
  replace htl : tl41.length = 71 := by rw [et41, List.length_append, htl]; rfl
  have hP : va_P D vwCl ((h0, .inr (8, fs38)) :: tl41) H := by rw [et41]; exact hP
  have hD : va_D A ((h0, .inr (8, fs38)) :: tl41) := by rw [et41]; exact hD
  refine n_putF X hin hP hD hS 0 7 qk_8_55 rfl rfl rfl (by rw [hfl]; decide) dX8_init_120 (fun H locs hP hD hS => ?_)
  obtain ⟨fs42, ef42⟩ : ∃ z : List Value, z = fs38.set 7 (.ref q39) := ⟨_, rfl⟩
  have gf42_0 : fs42[0]? = some (.ref q1) := by rw [ef42]; exact ga_n (by decide) gf38_0
  have gf42_1 : fs42[1]? = some (.ref q5) := by rw [ef42]; exact ga_n (by decide) gf38_1
  have gf42_3 : fs42[3]? = some (.ref q13) := by rw [ef42]; exact ga_n (by decide) gf38_3
  have gf42_4 : fs42[4]? = some (.ref q17) := by rw [ef42]; exact ga_n (by decide) gf38_4
  have gf42_6 : fs42[6]? = some (.ref q35) := by rw [ef42]; exact ga_n (by decide) gf38_6
  replace hfl : fs42.length = 15 := by rw [ef42, List.length_set]; exact hfl
  have hP : va_P D vwCl ((h0, .inr (8, fs42)) :: tl41) H := by rw [ef42]; exact hP
  have hD : va_D A ((h0, .inr (8, fs42)) :: tl41) := by rw [ef42]; exact hD
  refine lv_aload_n hx hb dX8_init_123 rfl (lv_at hl 1 rfl) ?_
  refine n_new (ci := 0) (fs := [.null, .null, .null, .null, .null, .null, .null, .int 0, .int 0, .int 0]) X hP hD hS hA tyX0 tyX0_ok iw_0 rfl gm_311 gm_312 gm_113 df_0 (Nat.le_of_ble_eq_true rfl) (Nat.le_of_ble_eq_true rfl) dX8_init_124 (fun q43 H hP hD hS => ?_)
  refine lv_dup hx hb dX8_init_127 rfl ?_
  refine lv_aload_n hx hb dX8_init_128 rfl (lv_at hl 1 rfl) ?_
  refine n_get (v := .ref q13) X hP 0 3 fk_8_32 rfl gf42_3 dX8_init_129 ?_
  refine n_callI (S := (Nat → Nat)) (wr := ((h0, .inr (8, fs42)) :: tl41)) (As := [.ref q13]) (rest := [.ref q43, .ref h0]) (w := fun f => coW cz q43 q13 f) X hP hD hS hA (ct_co q43 _ q13) (fun _ _ _ h => h) (fun _ _ => trivial) gm_315 gm_314 gm_113 gm_313 rfl hd_X0_init ⟨rfl, rfl⟩ ⟨Nat.le_of_ble_eq_true rfl, Nat.le_of_ble_eq_true rfl⟩ hl.1 rfl (Nat.le_of_ble_eq_true rfl) dX8_init_132 ⟨Nat.le_of_ble_eq_true rfl, Nat.le_of_ble_eq_true rfl⟩ (fun f44 H locs hP hD hS => ?_)
  obtain ⟨tl45, et45⟩ : ∃ z : va_W, z = tl41 ++ coW cz q43 q13 f44 := ⟨_, rfl⟩
  have gt45_25 : tl45[25]? = some (q17, .inl (cz 4, 3, .inr (.inr (.inr (.inr (va_up (va_up (va_up (fun _ => none) (Int32.toNatClampNeg 0) (some q20)) (Int32.toNatClampNeg 1) (some q24)) (Int32.toNatClampNeg 2) (some q28))))))) := by rw [et45]; exact ga_l gt41_25
  have gt45_48 : tl45[48]? = some (q28, .inr (6, [.ref (f29 0), .ref (f29 1), .ref (f29 2), .ref (f29 3), .ref (f29 4), .ref (f29 5), .ref (f29 6), .ref (f29 7), .ref (f29 8), .ref (f29 9), .int 0, .int 0, .int 0, .int 0, .int 0, .int 0, .int 0, .int 0])) := by rw [et45]; exact ga_l gt41_48
  replace htl : tl45.length = 78 := by rw [et45, List.length_append, htl]; rfl
  have hP : va_P D vwCl ((h0, .inr (8, fs42)) :: tl45) H := by rw [et45]; exact hP
  have hD : va_D A ((h0, .inr (8, fs42)) :: tl45) := by rw [et45]; exact hD
  refine n_putF X hin hP hD hS 0 8 qk_8_59 rfl rfl rfl (by rw [hfl]; decide) dX8_init_135 (fun H locs hP hD hS => ?_)
  obtain ⟨fs46, ef46⟩ : ∃ z : List Value, z = fs42.set 8 (.ref q43) := ⟨_, rfl⟩
  have gf46_0 : fs46[0]? = some (.ref q1) := by rw [ef46]; exact ga_n (by decide) gf42_0
  have gf46_1 : fs46[1]? = some (.ref q5) := by rw [ef46]; exact ga_n (by decide) gf42_1
  have gf46_3 : fs46[3]? = some (.ref q13) := by rw [ef46]; exact ga_n (by decide) gf42_3
  have gf46_4 : fs46[4]? = some (.ref q17) := by rw [ef46]; exact ga_n (by decide) gf42_4
  have gf46_6 : fs46[6]? = some (.ref q35) := by rw [ef46]; exact ga_n (by decide) gf42_6
  have gf46_8 : fs46[8]? = some (.ref q43) := by rw [ef46]; exact ga_s hfl (by decide)
  replace hfl : fs46.length = 15 := by rw [ef46, List.length_set]; exact hfl
  have hP : va_P D vwCl ((h0, .inr (8, fs46)) :: tl45) H := by rw [ef46]; exact hP
  have hD : va_D A ((h0, .inr (8, fs46)) :: tl45) := by rw [ef46]; exact hD
  refine lv_aload_n hx hb dX8_init_138 rfl (lv_at hl 1 rfl) ?_
  refine n_new (ci := 4) (fs := [.null, .null, .null, .null, .null, .null, .null, .int 0, .int 0]) X hP hD hS hA tyX4 tyX4_ok iw_4 rfl gm_352 gm_353 gm_114 df_4 (Nat.le_of_ble_eq_true rfl) (Nat.le_of_ble_eq_true rfl) dX8_init_139 (fun q47 H hP hD hS => ?_)
  refine lv_dup hx hb dX8_init_142 rfl ?_
  refine lv_aload_n hx hb dX8_init_143 rfl (lv_at hl 1 rfl) ?_
  refine n_get (v := .ref q13) X hP 0 3 fk_8_32 rfl gf46_3 dX8_init_144 ?_
  refine lv_aload_n hx hb dX8_init_147 rfl (lv_at hl 1 rfl) ?_
  refine n_get (v := .ref q43) X hP 0 8 fk_8_59 rfl gf46_8 dX8_init_148 ?_
  refine n_callI (S := (Nat → Nat)) (wr := ((h0, .inr (8, fs46)) :: tl45)) (As := [.ref q13, .ref q43]) (rest := [.ref q47, .ref h0]) (w := fun f => plW cz q47 q13 q43 f) X hP hD hS hA (ct_pl q47 _ q13 q43) (fun U V e h => va_AOA.moved (by rw [e]; exact Vm.Alike.refl _) h) (fun U hW => va_AOA.moved hW.alike hN.2.1) gm_356 gm_355 gm_114 gm_354 rfl hd_X4_init ⟨rfl, rfl⟩ ⟨Nat.le_of_ble_eq_true rfl, Nat.le_of_ble_eq_true rfl⟩ hl.1 rfl (Nat.le_of_ble_eq_true rfl) dX8_init_151 ⟨Nat.le_of_ble_eq_true rfl, Nat.le_of_ble_eq_true rfl⟩ (fun f48 H locs hP hD hS => ?_)
  obtain ⟨tl49, et49⟩ : ∃ z : va_W, z = tl45 ++ plW cz q47 q13 q43 f48 := ⟨_, rfl⟩
  have gt49_25 : tl49[25]? = some (q17, .inl (cz 4, 3, .inr (.inr (.inr (.inr (va_up (va_up (va_up (fun _ => none) (Int32.toNatClampNeg 0) (some q20)) (Int32.toNatClampNeg 1) (some q24)) (Int32.toNatClampNeg 2) (some q28))))))) := by rw [et49]; exact ga_l gt45_25
  have gt49_48 : tl49[48]? = some (q28, .inr (6, [.ref (f29 0), .ref (f29 1), .ref (f29 2), .ref (f29 3), .ref (f29 4), .ref (f29 5), .ref (f29 6), .ref (f29 7), .ref (f29 8), .ref (f29 9), .int 0, .int 0, .int 0, .int 0, .int 0, .int 0, .int 0, .int 0])) := by rw [et49]; exact ga_l gt45_48
  replace htl : tl49.length = 90 := by rw [et49, List.length_append, htl]; rfl
  have hP : va_P D vwCl ((h0, .inr (8, fs46)) :: tl49) H := by rw [et49]; exact hP
  have hD : va_D A ((h0, .inr (8, fs46)) :: tl49) := by rw [et49]; exact hD
  refine n_putF X hin hP hD hS 0 9 qk_8_67 rfl rfl rfl (by rw [hfl]; decide) dX8_init_154 (fun H locs hP hD hS => ?_)
  obtain ⟨fs50, ef50⟩ : ∃ z : List Value, z = fs46.set 9 (.ref q47) := ⟨_, rfl⟩
  have gf50_0 : fs50[0]? = some (.ref q1) := by rw [ef50]; exact ga_n (by decide) gf46_0
  have gf50_1 : fs50[1]? = some (.ref q5) := by rw [ef50]; exact ga_n (by decide) gf46_1
  have gf50_3 : fs50[3]? = some (.ref q13) := by rw [ef50]; exact ga_n (by decide) gf46_3
  have gf50_4 : fs50[4]? = some (.ref q17) := by rw [ef50]; exact ga_n (by decide) gf46_4
  have gf50_6 : fs50[6]? = some (.ref q35) := by rw [ef50]; exact ga_n (by decide) gf46_6
  have gf50_8 : fs50[8]? = some (.ref q43) := by rw [ef50]; exact ga_n (by decide) gf46_8
  replace hfl : fs50.length = 15 := by rw [ef50, List.length_set]; exact hfl
  have hP : va_P D vwCl ((h0, .inr (8, fs50)) :: tl49) H := by rw [ef50]; exact hP
  have hD : va_D A ((h0, .inr (8, fs50)) :: tl49) := by rw [ef50]; exact hD
  refine lv_aload_n hx hb dX8_init_157 rfl (lv_at hl 1 rfl) ?_
  refine n_new (ci := 2) (fs := [.null, .null, .null, .long 0, .long 0]) X hP hD hS hA tyX2 tyX2_ok iw_2 rfl gm_391 gm_392 gm_115 df_2 (Nat.le_of_ble_eq_true rfl) (Nat.le_of_ble_eq_true rfl) dX8_init_158 (fun q51 H hP hD hS => ?_)
  refine lv_dup hx hb dX8_init_161 rfl ?_
  refine lv_aload_n hx hb dX8_init_162 rfl (lv_at hl 1 rfl) ?_
  refine n_get (v := .ref q13) X hP 0 3 fk_8_32 rfl gf50_3 dX8_init_163 ?_
  refine lv_aload_n hx hb dX8_init_166 rfl (lv_at hl 1 rfl) ?_
  refine n_get (v := .ref q43) X hP 0 8 fk_8_59 rfl gf50_8 dX8_init_167 ?_
  refine n_callI (S := (Nat → Nat)) (wr := ((h0, .inr (8, fs50)) :: tl49)) (As := [.ref q13, .ref q43]) (rest := [.ref q51, .ref h0]) (w := fun f => odW cz q51 q13 q43 f) X hP hD hS hA (ct_od q51 _ q13 q43) (fun _ _ _ h => h) (fun _ _ => trivial) gm_395 gm_394 gm_115 gm_393 rfl hd_X2_init ⟨rfl, rfl⟩ ⟨Nat.le_of_ble_eq_true rfl, Nat.le_of_ble_eq_true rfl⟩ hl.1 rfl (Nat.le_of_ble_eq_true rfl) dX8_init_170 ⟨Nat.le_of_ble_eq_true rfl, Nat.le_of_ble_eq_true rfl⟩ (fun f52 H locs hP hD hS => ?_)
  obtain ⟨tl53, et53⟩ : ∃ z : va_W, z = tl49 ++ odW cz q51 q13 q43 f52 := ⟨_, rfl⟩
  have gt53_25 : tl53[25]? = some (q17, .inl (cz 4, 3, .inr (.inr (.inr (.inr (va_up (va_up (va_up (fun _ => none) (Int32.toNatClampNeg 0) (some q20)) (Int32.toNatClampNeg 1) (some q24)) (Int32.toNatClampNeg 2) (some q28))))))) := by rw [et53]; exact ga_l gt49_25
  have gt53_48 : tl53[48]? = some (q28, .inr (6, [.ref (f29 0), .ref (f29 1), .ref (f29 2), .ref (f29 3), .ref (f29 4), .ref (f29 5), .ref (f29 6), .ref (f29 7), .ref (f29 8), .ref (f29 9), .int 0, .int 0, .int 0, .int 0, .int 0, .int 0, .int 0, .int 0])) := by rw [et53]; exact ga_l gt49_48
  replace htl : tl53.length = 92 := by rw [et53, List.length_append, htl]; rfl
  have hP : va_P D vwCl ((h0, .inr (8, fs50)) :: tl53) H := by rw [et53]; exact hP
  have hD : va_D A ((h0, .inr (8, fs50)) :: tl53) := by rw [et53]; exact hD
  refine n_putF X hin hP hD hS 0 10 qk_8_74 rfl rfl rfl (by rw [hfl]; decide) dX8_init_173 (fun H locs hP hD hS => ?_)
  obtain ⟨fs54, ef54⟩ : ∃ z : List Value, z = fs50.set 10 (.ref q51) := ⟨_, rfl⟩
  have gf54_0 : fs54[0]? = some (.ref q1) := by rw [ef54]; exact ga_n (by decide) gf50_0
  have gf54_1 : fs54[1]? = some (.ref q5) := by rw [ef54]; exact ga_n (by decide) gf50_1
  have gf54_3 : fs54[3]? = some (.ref q13) := by rw [ef54]; exact ga_n (by decide) gf50_3
  have gf54_4 : fs54[4]? = some (.ref q17) := by rw [ef54]; exact ga_n (by decide) gf50_4
  have gf54_6 : fs54[6]? = some (.ref q35) := by rw [ef54]; exact ga_n (by decide) gf50_6
  have gf54_8 : fs54[8]? = some (.ref q43) := by rw [ef54]; exact ga_n (by decide) gf50_8
  replace hfl : fs54.length = 15 := by rw [ef54, List.length_set]; exact hfl
  have hP : va_P D vwCl ((h0, .inr (8, fs54)) :: tl53) H := by rw [ef54]; exact hP
  have hD : va_D A ((h0, .inr (8, fs54)) :: tl53) := by rw [ef54]; exact hD
  refine lv_aload_n hx hb dX8_init_176 rfl (lv_at hl 1 rfl) ?_
  refine n_new (ci := 1) (fs := [.null, .null, .null, .null, .int 0, .int 0]) X hP hD hS hA tyX1 tyX1_ok iw_1 rfl gm_416 gm_417 gm_116 df_1 (Nat.le_of_ble_eq_true rfl) (Nat.le_of_ble_eq_true rfl) dX8_init_177 (fun q55 H hP hD hS => ?_)
  refine lv_dup hx hb dX8_init_180 rfl ?_
  refine lv_aload_n hx hb dX8_init_181 rfl (lv_at hl 1 rfl) ?_
  refine n_get (v := .ref q13) X hP 0 3 fk_8_32 rfl gf54_3 dX8_init_182 ?_
  refine lv_aload_n hx hb dX8_init_185 rfl (lv_at hl 1 rfl) ?_
  refine n_get (v := .ref q35) X hP 0 6 fk_8_46 rfl gf54_6 dX8_init_186 ?_
  refine n_callI (S := (Nat → Nat)) (wr := ((h0, .inr (8, fs54)) :: tl53)) (As := [.ref q13, .ref q35]) (rest := [.ref q55, .ref h0]) (w := fun f => guW cz q55 q13 q35 f) X hP hD hS hA (ct_gu q55 _ q13 q35) (fun _ _ _ h => h) (fun _ _ => trivial) gm_420 gm_419 gm_116 gm_418 rfl hd_X1_init ⟨rfl, rfl⟩ ⟨Nat.le_of_ble_eq_true rfl, Nat.le_of_ble_eq_true rfl⟩ hl.1 rfl (Nat.le_of_ble_eq_true rfl) dX8_init_189 ⟨Nat.le_of_ble_eq_true rfl, Nat.le_of_ble_eq_true rfl⟩ (fun f56 H locs hP hD hS => ?_)
  obtain ⟨tl57, et57⟩ : ∃ z : va_W, z = tl53 ++ guW cz q55 q13 q35 f56 := ⟨_, rfl⟩
  have gt57_25 : tl57[25]? = some (q17, .inl (cz 4, 3, .inr (.inr (.inr (.inr (va_up (va_up (va_up (fun _ => none) (Int32.toNatClampNeg 0) (some q20)) (Int32.toNatClampNeg 1) (some q24)) (Int32.toNatClampNeg 2) (some q28))))))) := by rw [et57]; exact ga_l gt53_25
  have gt57_48 : tl57[48]? = some (q28, .inr (6, [.ref (f29 0), .ref (f29 1), .ref (f29 2), .ref (f29 3), .ref (f29 4), .ref (f29 5), .ref (f29 6), .ref (f29 7), .ref (f29 8), .ref (f29 9), .int 0, .int 0, .int 0, .int 0, .int 0, .int 0, .int 0, .int 0])) := by rw [et57]; exact ga_l gt53_48
  replace htl : tl57.length = 95 := by rw [et57, List.length_append, htl]; rfl
  have hP : va_P D vwCl ((h0, .inr (8, fs54)) :: tl57) H := by rw [et57]; exact hP
  have hD : va_D A ((h0, .inr (8, fs54)) :: tl57) := by rw [et57]; exact hD
  refine n_putF X hin hP hD hS 0 11 qk_8_83 rfl rfl rfl (by rw [hfl]; decide) dX8_init_192 (fun H locs hP hD hS => ?_)
  obtain ⟨fs58, ef58⟩ : ∃ z : List Value, z = fs54.set 11 (.ref q55) := ⟨_, rfl⟩
  have gf58_0 : fs58[0]? = some (.ref q1) := by rw [ef58]; exact ga_n (by decide) gf54_0
  have gf58_1 : fs58[1]? = some (.ref q5) := by rw [ef58]; exact ga_n (by decide) gf54_1
  have gf58_3 : fs58[3]? = some (.ref q13) := by rw [ef58]; exact ga_n (by decide) gf54_3
  have gf58_4 : fs58[4]? = some (.ref q17) := by rw [ef58]; exact ga_n (by decide) gf54_4
  have gf58_6 : fs58[6]? = some (.ref q35) := by rw [ef58]; exact ga_n (by decide) gf54_6
  have gf58_8 : fs58[8]? = some (.ref q43) := by rw [ef58]; exact ga_n (by decide) gf54_8
  replace hfl : fs58.length = 15 := by rw [ef58, List.length_set]; exact hfl
  have hP : va_P D vwCl ((h0, .inr (8, fs58)) :: tl57) H := by rw [ef58]; exact hP
  have hD : va_D A ((h0, .inr (8, fs58)) :: tl57) := by rw [ef58]; exact hD
  refine lv_aload_n hx hb dX8_init_195 rfl (lv_at hl 1 rfl) ?_
  refine lv_iconst (v := 1) hx hb dX8_init_196 (by decide) ?_
  refine n_put X hP hD hS 0 12 pk_8_87 rfl rfl rfl (by rw [hfl]; decide) dX8_init_197 (fun H locs hP hD hS => ?_)
  obtain ⟨fs59, ef59⟩ : ∃ z : List Value, z = fs58.set 12 (.int 1) := ⟨_, rfl⟩
  have gf59_0 : fs59[0]? = some (.ref q1) := by rw [ef59]; exact ga_n (by decide) gf58_0
  have gf59_1 : fs59[1]? = some (.ref q5) := by rw [ef59]; exact ga_n (by decide) gf58_1
  have gf59_3 : fs59[3]? = some (.ref q13) := by rw [ef59]; exact ga_n (by decide) gf58_3
  have gf59_4 : fs59[4]? = some (.ref q17) := by rw [ef59]; exact ga_n (by decide) gf58_4
  have gf59_6 : fs59[6]? = some (.ref q35) := by rw [ef59]; exact ga_n (by decide) gf58_6
  have gf59_8 : fs59[8]? = some (.ref q43) := by rw [ef59]; exact ga_n (by decide) gf58_8
  replace hfl : fs59.length = 15 := by rw [ef59, List.length_set]; exact hfl
  have hP : va_P D vwCl ((h0, .inr (8, fs59)) :: tl57) H := by rw [ef59]; exact hP
  have hD : va_D A ((h0, .inr (8, fs59)) :: tl57) := by rw [ef59]; exact hD
  refine lv_aload_n hx hb dX8_init_200 rfl (lv_at hl 1 rfl) ?_
  refine lv_iconst (v := 1) hx hb dX8_init_201 (by decide) ?_
  refine n_put X hP hD hS 0 13 pk_8_91 rfl rfl rfl (by rw [hfl]; decide) dX8_init_202 (fun H locs hP hD hS => ?_)
  obtain ⟨fs60, ef60⟩ : ∃ z : List Value, z = fs59.set 13 (.int 1) := ⟨_, rfl⟩
  have gf60_0 : fs60[0]? = some (.ref q1) := by rw [ef60]; exact ga_n (by decide) gf59_0
  have gf60_1 : fs60[1]? = some (.ref q5) := by rw [ef60]; exact ga_n (by decide) gf59_1
  have gf60_3 : fs60[3]? = some (.ref q13) := by rw [ef60]; exact ga_n (by decide) gf59_3
  have gf60_4 : fs60[4]? = some (.ref q17) := by rw [ef60]; exact ga_n (by decide) gf59_4
  have gf60_6 : fs60[6]? = some (.ref q35) := by rw [ef60]; exact ga_n (by decide) gf59_6
  have gf60_8 : fs60[8]? = some (.ref q43) := by rw [ef60]; exact ga_n (by decide) gf59_8
  replace hfl : fs60.length = 15 := by rw [ef60, List.length_set]; exact hfl
  have hP : va_P D vwCl ((h0, .inr (8, fs60)) :: tl57) H := by rw [ef60]; exact hP
  have hD : va_D A ((h0, .inr (8, fs60)) :: tl57) := by rw [ef60]; exact hD
  refine lv_aload_n hx hb dX8_init_205 rfl (lv_at hl 1 rfl) ?_
  refine lv_iconst (v := 0) hx hb dX8_init_206 (by decide) ?_
  refine n_put X hP hD hS 0 14 pk_8_94 rfl rfl rfl (by rw [hfl]; decide) dX8_init_207 (fun H locs hP hD hS => ?_)
  obtain ⟨fs61, ef61⟩ : ∃ z : List Value, z = fs60.set 14 (.int 0) := ⟨_, rfl⟩
  have gf61_0 : fs61[0]? = some (.ref q1) := by rw [ef61]; exact ga_n (by decide) gf60_0
  have gf61_1 : fs61[1]? = some (.ref q5) := by rw [ef61]; exact ga_n (by decide) gf60_1
  have gf61_3 : fs61[3]? = some (.ref q13) := by rw [ef61]; exact ga_n (by decide) gf60_3
  have gf61_4 : fs61[4]? = some (.ref q17) := by rw [ef61]; exact ga_n (by decide) gf60_4
  have gf61_6 : fs61[6]? = some (.ref q35) := by rw [ef61]; exact ga_n (by decide) gf60_6
  have gf61_8 : fs61[8]? = some (.ref q43) := by rw [ef61]; exact ga_n (by decide) gf60_8
  replace hfl : fs61.length = 15 := by rw [ef61, List.length_set]; exact hfl
  have hP : va_P D vwCl ((h0, .inr (8, fs61)) :: tl57) H := by rw [ef61]; exact hP
  have hD : va_D A ((h0, .inr (8, fs61)) :: tl57) := by rw [ef61]; exact hD
  subst hAe
  subst ef61 ef60 ef59 ef58 et57 ef54 et53 ef50 et49 ef46 et45 ef42 et41 ef38 et37 ef34 et33 et31 et30 et27 et26 et23 et22 ef19 et18 ef16 et15 ef12 et11 ef8 et7 ef4 et3 et0 ef0
  exact n_ret (w := fun f => uW cz h0 f) X hr hlk ((fun k => ([q1, q5, q9, q13, q17, q20, q24, q28, q32, q35, q39, q43, q47, q51, q55] : List Nat).getD k 0), (fun k => ([f2, f6, f10, f14, (fun _ => 0), f21, f25, f29, (fun _ => 0), f36, f40, f44, f48, f52, f56] : List (Nat → Nat)).getD k (fun _ => 0))) hP hD hS (Nat.le_of_ble_eq_true rfl) (Nat.le_of_ble_eq_true rfl) dX8_init_210

def mWF (f : Nat → Nat) : List Value := ((((((((((((((((((((((([.int 0, .null, .null, .null, .null, .null, .int 0, .int 0, .int 0, .int 0, .int 0, .long 0, .int 0, .int 0, .int 0, .int 0, .null, .null, .null, .null, .null, .null, .null, .int 0, .int 0, .int 0, .int 0, .int 0, .null, .null, .null, .null, .null, .null, .null, .int 0, .int 0, .int 0, .int 0, .null, .null, .int 0, .int 0, .int 0, .int 0, .int 0, .null, .int 0, .int 0, .int 0, .int 0].set 1 (.ref (f 0))).set 2 (.ref (f 1))).set 3 (.ref (f 2))).set 4 (.ref (f 3))).set 5 (.ref (f 4))).set 15 (.int (-1))).set 16 (.ref (f 5))).set 17 (.ref (f 6))).set 18 (.ref (f 7))).set 19 (.ref (f 8))).set 20 (.ref (f 9))).set 21 (.ref (f 10))).set 22 (.ref (f 11))).set 28 (.ref (f 12))).set 29 (.ref (f 13))).set 30 (.ref (f 14))).set 31 (.ref (f 15))).set 32 (.ref (f 16))).set 33 (.ref (f 17))).set 34 (.ref (f 18))).set 39 (.ref (f 19))).set 40 (.ref (f 20))).set 46 (.ref (f 21)))
def mWT (cz : Nat → ClassId) (f : Nat → Nat) : va_W := ((((((((((((((((((((((((((([] : va_W) ++ ([((f 0), .inl (cz 0, 4, .inl (fun _ => 0)))] : va_W)) ++ ([((f 1), .inl (cz 0, 4, .inl (fun _ => 0)))] : va_W)) ++ ([((f 2), .inl (cz 3, 240, .inr (.inl (fun _ => 0))))] : va_W)) ++ ([((f 3), .inl (cz 3, 60, .inr (.inl (fun _ => 0))))] : va_W)) ++ ([((f 4), .inl (cz 1, 700, .inl (fun _ => 0)))] : va_W)) ++ ([((f 5), .inl (cz 0, 5, .inl (fun _ => 0)))] : va_W)) ++ ([((f 6), .inl (cz 0, 35, .inl (fun _ => 0)))] : va_W)) ++ ([((f 7), .inl (cz 0, 90, .inl (fun _ => 0)))] : va_W)) ++ ([((f 8), .inl (cz 0, 100, .inl (fun _ => 0)))] : va_W)) ++ ([((f 9), .inl (cz 0, 80, .inl (fun _ => 0)))] : va_W)) ++ ([((f 10), .inl (cz 0, 300, .inl (fun _ => 0)))] : va_W)) ++ ([((f 11), .inl (cz 2, 3, .inl (fun _ => 0)))] : va_W)) ++ ([((f 12), .inl (cz 0, 6, .inl (fun _ => 0)))] : va_W)) ++ ([((f 13), .inl (cz 0, 12, .inl (fun _ => 0)))] : va_W)) ++ ([((f 14), .inl (cz 0, 78, .inl (fun _ => 0)))] : va_W)) ++ ([((f 15), .inl (cz 0, 13, .inl (fun _ => 0)))] : va_W)) ++ ([((f 16), .inl (cz 0, 6, .inl (fun _ => 0)))] : va_W)) ++ ([((f 17), .inl (cz 0, 6, .inl (fun _ => 0)))] : va_W)) ++ ([((f 18), .inl (cz 0, 6, .inl (fun _ => 0)))] : va_W)) ++ ([((f 19), .inl (cz 0, 5, .inl (fun _ => 0)))] : va_W)) ++ ([((f 20), .inl (cz 0, 5, .inl (fun _ => 0)))] : va_W)) ++ ([((f 21), .inl (cz 0, 1300, .inl (fun _ => 0)))] : va_W)).set 0 ((f 0), .inl (cz 0, 4, .inl (upd (fun _ => 0) (Int32.toNatClampNeg 0) (-1))))).set 0 ((f 0), .inl (cz 0, 4, .inl (upd (upd (fun _ => 0) (Int32.toNatClampNeg 0) (-1)) (Int32.toNatClampNeg 1) (-1))))).set 0 ((f 0), .inl (cz 0, 4, .inl (upd (upd (upd (fun _ => 0) (Int32.toNatClampNeg 0) (-1)) (Int32.toNatClampNeg 1) (-1)) (Int32.toNatClampNeg 2) (-1))))).set 0 ((f 0), .inl (cz 0, 4, .inl (upd (upd (upd (upd (fun _ => 0) (Int32.toNatClampNeg 0) (-1)) (Int32.toNatClampNeg 1) (-1)) (Int32.toNatClampNeg 2) (-1)) (Int32.toNatClampNeg 3) (-1)))))
def mW (cz : Nat → ClassId) (h0 : Nat) (f : Nat → Nat) : va_W := (h0, .inr (9, mWF f)) :: mWT cz f
set_option maxRecDepth 100000 in
set_option maxHeartbeats 4000000 in
theorem ct_m {l : Launch} {D : va_G} {cz : Nat → ClassId} (h0 sz : Nat) : CtN (Nat → Nat) l yX9_init cX9_init 2 ({ frames := 1, cells := 22, slots := 3058, locals := 12 } : Room) D cz sz [(h0, .inr (9, [.int 0, .null, .null, .null, .null, .null, .int 0, .int 0, .int 0, .int 0, .int 0, .long 0, .int 0, .int 0, .int 0, .int 0, .null, .null, .null, .null, .null, .null, .null, .int 0, .int 0, .int 0, .int 0, .int 0, .null, .null, .null, .null, .null, .null, .null, .int 0, .int 0, .int 0, .int 0, .null, .null, .int 0, .int 0, .int 0, .int 0, .int 0, .null, .int 0, .int 0, .int 0, .int 0]))] noNW [.ref h0] (fun f => mW cz h0 f) 22 3058 := by
  refine n_entry pn_X9_init rfl (Nat.le_of_ble_eq_true rfl) ?_
  intro p e s m args below meth c ls A hAe X hr hlk hin hP hD hA hl hS hN
  have hx := X.1
  have hb := X.2.1
  have hl : lv_has ls 2 [(0, .ref h0)] := hl
  obtain ⟨fs0, ef0⟩ : ∃ z : List Value, z = [.int 0, .null, .null, .null, .null, .null, .int 0, .int 0, .int 0, .int 0, .int 0, .long 0, .int 0, .int 0, .int 0, .int 0, .null, .null, .null, .null, .null, .null, .null, .int 0, .int 0, .int 0, .int 0, .int 0, .null, .null, .null, .null, .null, .null, .null, .int 0, .int 0, .int 0, .int 0, .null, .null, .int 0, .int 0, .int 0, .int 0, .int 0, .null, .int 0, .int 0, .int 0, .int 0] := ⟨_, rfl⟩
  obtain ⟨tl0, et0⟩ : ∃ z : va_W, z = [] := ⟨_, rfl⟩
  have hfl : fs0.length = 51 := by rw [ef0]; rfl
  have htl : tl0.length = 0 := by rw [et0]; rfl
  have hP : va_P D vwCl ((h0, .inr (9, fs0)) :: tl0) s.heap := by rw [ef0, et0]; exact hP
  have hD : va_D A ((h0, .inr (9, fs0)) :: tl0) := by rw [ef0, et0]; exact hD
  refine lv_aload_n hx hb dX9_init_0 rfl (lv_at hl 0 rfl) ?_
  refine n_obj X gm_1333 gm_132 gm_oc hl.1 dX9_init_1 (Nat.le_of_ble_eq_true rfl) (Nat.le_of_ble_eq_true rfl) ?_
  refine lv_aload_n hx hb dX9_init_4 rfl (lv_at hl 0 rfl) ?_
  refine lv_iconst (v := 4) hx hb dX9_init_5 (by decide) ?_
  refine n_newa (ty := .int) (N' := 4) (a0 := (4, .inl (fun _ => 0))) X hP hD hS hA 0 rfl rfl gm_258 (fun _ => rfl) (by decide) (by decide) (by decide) (Nat.le_of_ble_eq_true rfl) (Nat.le_of_ble_eq_true rfl) dX9_init_6 (fun q1 H hP hD hS => ?_)
  obtain ⟨tl2, et2⟩ : ∃ z : va_W, z = tl0 ++ ([(q1, .inl (cz 0, 4, .inl (fun _ => 0)))] : va_W) := ⟨_, rfl⟩
  have gt2_0 : tl2[0]? = some (q1, .inl (cz 0, 4, .inl (fun _ => 0))) := by rw [et2]; exact ga_r (p := 0) htl rfl
  replace htl : tl2.length = 1 := by rw [et2, List.length_append, htl]; rfl
  have hP : va_P D vwCl ((h0, .inr (9, fs0)) :: tl2) H := by rw [et2]; exact hP
  have hD : va_D A ((h0, .inr (9, fs0)) :: tl2) := by rw [et2]; exact hD
  refine n_putF X hin hP hD hS 0 1 qk_9_7 rfl rfl rfl (by rw [hfl]; decide) dX9_init_8 (fun H locs hP hD hS => ?_)
  obtain ⟨fs3, ef3⟩ : ∃ z : List Value, z = fs0.set 1 (.ref q1) := ⟨_, rfl⟩
  have gf3_1 : fs3[1]? = some (.ref q1) := by rw [ef3]; exact ga_s hfl (by decide)
  replace hfl : fs3.length = 51 := by rw [ef3, List.length_set]; exact hfl
  have hP : va_P D vwCl ((h0, .inr (9, fs3)) :: tl2) H := by rw [ef3]; exact hP
  have hD : va_D A ((h0, .inr (9, fs3)) :: tl2) := by rw [ef3]; exact hD
  refine lv_aload_n hx hb dX9_init_11 rfl (lv_at hl 0 rfl) ?_
  refine lv_iconst (v := 4) hx hb dX9_init_12 (by decide) ?_
  refine n_newa (ty := .int) (N' := 4) (a0 := (4, .inl (fun _ => 0))) X hP hD hS hA 0 rfl rfl gm_258 (fun _ => rfl) (by decide) (by decide) (by decide) (Nat.le_of_ble_eq_true rfl) (Nat.le_of_ble_eq_true rfl) dX9_init_13 (fun q4 H hP hD hS => ?_)
  obtain ⟨tl5, et5⟩ : ∃ z : va_W, z = tl2 ++ ([(q4, .inl (cz 0, 4, .inl (fun _ => 0)))] : va_W) := ⟨_, rfl⟩
  have gt5_0 : tl5[0]? = some (q1, .inl (cz 0, 4, .inl (fun _ => 0))) := by rw [et5]; exact ga_l gt2_0
  replace htl : tl5.length = 2 := by rw [et5, List.length_append, htl]; rfl
  have hP : va_P D vwCl ((h0, .inr (9, fs3)) :: tl5) H := by rw [et5]; exact hP
  have hD : va_D A ((h0, .inr (9, fs3)) :: tl5) := by rw [et5]; exact hD
  refine n_putF X hin hP hD hS 0 2 qk_9_13 rfl rfl rfl (by rw [hfl]; decide) dX9_init_15 (fun H locs hP hD hS => ?_)
  obtain ⟨fs6, ef6⟩ : ∃ z : List Value, z = fs3.set 2 (.ref q4) := ⟨_, rfl⟩
  have gf6_1 : fs6[1]? = some (.ref q1) := by rw [ef6]; exact ga_n (by decide) gf3_1
  replace hfl : fs6.length = 51 := by rw [ef6, List.length_set]; exact hfl
  have hP : va_P D vwCl ((h0, .inr (9, fs6)) :: tl5) H := by rw [ef6]; exact hP
  have hD : va_D A ((h0, .inr (9, fs6)) :: tl5) := by rw [ef6]; exact hD
  refine lv_aload_n hx hb dX9_init_18 rfl (lv_at hl 0 rfl) ?_
  refine lv_sipush (v := 240) hx hb dX9_init_19 (by decide) ?_
  refine n_newa (ty := .long) (N' := 240) (a0 := (240, .inr (.inl (fun _ => 0)))) X hP hD hS hA 3 rfl rfl gm_310 (fun _ => rfl) (by decide) (by decide) (by decide) (Nat.le_of_ble_eq_true rfl) (Nat.le_of_ble_eq_true rfl) dX9_init_22 (fun q7 H hP hD hS => ?_)
  obtain ⟨tl8, et8⟩ : ∃ z : va_W, z = tl5 ++ ([(q7, .inl (cz 3, 240, .inr (.inl (fun _ => 0))))] : va_W) := ⟨_, rfl⟩
  have gt8_0 : tl8[0]? = some (q1, .inl (cz 0, 4, .inl (fun _ => 0))) := by rw [et8]; exact ga_l gt5_0
  replace htl : tl8.length = 3 := by rw [et8, List.length_append, htl]; rfl
  have hP : va_P D vwCl ((h0, .inr (9, fs6)) :: tl8) H := by rw [et8]; exact hP
  have hD : va_D A ((h0, .inr (9, fs6)) :: tl8) := by rw [et8]; exact hD
  refine n_putF X hin hP hD hS 0 3 qk_9_16 rfl rfl rfl (by rw [hfl]; decide) dX9_init_24 (fun H locs hP hD hS => ?_)
  obtain ⟨fs9, ef9⟩ : ∃ z : List Value, z = fs6.set 3 (.ref q7) := ⟨_, rfl⟩
  have gf9_1 : fs9[1]? = some (.ref q1) := by rw [ef9]; exact ga_n (by decide) gf6_1
  replace hfl : fs9.length = 51 := by rw [ef9, List.length_set]; exact hfl
  have hP : va_P D vwCl ((h0, .inr (9, fs9)) :: tl8) H := by rw [ef9]; exact hP
  have hD : va_D A ((h0, .inr (9, fs9)) :: tl8) := by rw [ef9]; exact hD
  refine lv_aload_n hx hb dX9_init_27 rfl (lv_at hl 0 rfl) ?_
  refine lv_bipush (v := 60) hx hb dX9_init_28 (by decide) ?_
  refine n_newa (ty := .long) (N' := 60) (a0 := (60, .inr (.inl (fun _ => 0)))) X hP hD hS hA 3 rfl rfl gm_310 (fun _ => rfl) (by decide) (by decide) (by decide) (Nat.le_of_ble_eq_true rfl) (Nat.le_of_ble_eq_true rfl) dX9_init_30 (fun q10 H hP hD hS => ?_)
  obtain ⟨tl11, et11⟩ : ∃ z : va_W, z = tl8 ++ ([(q10, .inl (cz 3, 60, .inr (.inl (fun _ => 0))))] : va_W) := ⟨_, rfl⟩
  have gt11_0 : tl11[0]? = some (q1, .inl (cz 0, 4, .inl (fun _ => 0))) := by rw [et11]; exact ga_l gt8_0
  replace htl : tl11.length = 4 := by rw [et11, List.length_append, htl]; rfl
  have hP : va_P D vwCl ((h0, .inr (9, fs9)) :: tl11) H := by rw [et11]; exact hP
  have hD : va_D A ((h0, .inr (9, fs9)) :: tl11) := by rw [et11]; exact hD
  refine n_putF X hin hP hD hS 0 4 qk_9_20 rfl rfl rfl (by rw [hfl]; decide) dX9_init_32 (fun H locs hP hD hS => ?_)
  obtain ⟨fs12, ef12⟩ : ∃ z : List Value, z = fs9.set 4 (.ref q10) := ⟨_, rfl⟩
  have gf12_1 : fs12[1]? = some (.ref q1) := by rw [ef12]; exact ga_n (by decide) gf9_1
  replace hfl : fs12.length = 51 := by rw [ef12, List.length_set]; exact hfl
  have hP : va_P D vwCl ((h0, .inr (9, fs12)) :: tl11) H := by rw [ef12]; exact hP
  have hD : va_D A ((h0, .inr (9, fs12)) :: tl11) := by rw [ef12]; exact hD
  refine lv_aload_n hx hb dX9_init_35 rfl (lv_at hl 0 rfl) ?_
  refine lv_sipush (v := 700) hx hb dX9_init_36 (by decide) ?_
  refine n_newa (ty := .byte) (N' := 700) (a0 := (700, .inl (fun _ => 0))) X hP hD hS hA 1 rfl rfl gm_149 (fun _ => rfl) (by decide) (by decide) (by decide) (Nat.le_of_ble_eq_true rfl) (Nat.le_of_ble_eq_true rfl) dX9_init_39 (fun q13 H hP hD hS => ?_)
  obtain ⟨tl14, et14⟩ : ∃ z : va_W, z = tl11 ++ ([(q13, .inl (cz 1, 700, .inl (fun _ => 0)))] : va_W) := ⟨_, rfl⟩
  have gt14_0 : tl14[0]? = some (q1, .inl (cz 0, 4, .inl (fun _ => 0))) := by rw [et14]; exact ga_l gt11_0
  replace htl : tl14.length = 5 := by rw [et14, List.length_append, htl]; rfl
  have hP : va_P D vwCl ((h0, .inr (9, fs12)) :: tl14) H := by rw [et14]; exact hP
  have hD : va_D A ((h0, .inr (9, fs12)) :: tl14) := by rw [et14]; exact hD
  refine n_putF X hin hP hD hS 0 5 qk_9_23 rfl rfl rfl (by rw [hfl]; decide) dX9_init_41 (fun H locs hP hD hS => ?_)
  obtain ⟨fs15, ef15⟩ : ∃ z : List Value, z = fs12.set 5 (.ref q13) := ⟨_, rfl⟩
  have gf15_1 : fs15[1]? = some (.ref q1) := by rw [ef15]; exact ga_n (by decide) gf12_1
  replace hfl : fs15.length = 51 := by rw [ef15, List.length_set]; exact hfl
  have hP : va_P D vwCl ((h0, .inr (9, fs15)) :: tl14) H := by rw [ef15]; exact hP
  have hD : va_D A ((h0, .inr (9, fs15)) :: tl14) := by rw [ef15]; exact hD
  refine lv_aload_n hx hb dX9_init_44 rfl (lv_at hl 0 rfl) ?_
  refine lv_iconst (v := (-1)) hx hb dX9_init_45 (by decide) ?_
  refine n_put X hP hD hS 0 15 pk_9_27 rfl rfl rfl (by rw [hfl]; decide) dX9_init_46 (fun H locs hP hD hS => ?_)
  obtain ⟨fs16, ef16⟩ : ∃ z : List Value, z = fs15.set 15 (.int (-1)) := ⟨_, rfl⟩
  have gf16_1 : fs16[1]? = some (.ref q1) := by rw [ef16]; exact ga_n (by decide) gf15_1
  replace hfl : fs16.length = 51 := by rw [ef16, List.length_set]; exact hfl
  have hP : va_P D vwCl ((h0, .inr (9, fs16)) :: tl14) H := by rw [ef16]; exact hP
  have hD : va_D A ((h0, .inr (9, fs16)) :: tl14) := by rw [ef16]; exact hD
  refine lv_aload_n hx hb dX9_init_49 rfl (lv_at hl 0 rfl) ?_
  refine lv_iconst (v := 5) hx hb dX9_init_50 (by decide) ?_
  refine n_newa (ty := .int) (N' := 5) (a0 := (5, .inl (fun _ => 0))) X hP hD hS hA 0 rfl rfl gm_258 (fun _ => rfl) (by decide) (by decide) (by decide) (Nat.le_of_ble_eq_true rfl) (Nat.le_of_ble_eq_true rfl) dX9_init_51 (fun q17 H hP hD hS => ?_)
  obtain ⟨tl18, et18⟩ : ∃ z : va_W, z = tl14 ++ ([(q17, .inl (cz 0, 5, .inl (fun _ => 0)))] : va_W) := ⟨_, rfl⟩
  have gt18_0 : tl18[0]? = some (q1, .inl (cz 0, 4, .inl (fun _ => 0))) := by rw [et18]; exact ga_l gt14_0
  replace htl : tl18.length = 6 := by rw [et18, List.length_append, htl]; rfl
  have hP : va_P D vwCl ((h0, .inr (9, fs16)) :: tl18) H := by rw [et18]; exact hP
  have hD : va_D A ((h0, .inr (9, fs16)) :: tl18) := by rw [et18]; exact hD
  refine n_putF X hin hP hD hS 0 16 qk_9_31 rfl rfl rfl (by rw [hfl]; decide) dX9_init_53 (fun H locs hP hD hS => ?_)
  obtain ⟨fs19, ef19⟩ : ∃ z : List Value, z = fs16.set 16 (.ref q17) := ⟨_, rfl⟩
  have gf19_1 : fs19[1]? = some (.ref q1) := by rw [ef19]; exact ga_n (by decide) gf16_1
  replace hfl : fs19.length = 51 := by rw [ef19, List.length_set]; exact hfl
  have hP : va_P D vwCl ((h0, .inr (9, fs19)) :: tl18) H := by rw [ef19]; exact hP
  have hD : va_D A ((h0, .inr (9, fs19)) :: tl18) := by rw [ef19]; exact hD
  refine lv_aload_n hx hb dX9_init_56 rfl (lv_at hl 0 rfl) ?_
  refine lv_bipush (v := 35) hx hb dX9_init_57 (by decide) ?_
  refine n_newa (ty := .int) (N' := 35) (a0 := (35, .inl (fun _ => 0))) X hP hD hS hA 0 rfl rfl gm_258 (fun _ => rfl) (by decide) (by decide) (by decide) (Nat.le_of_ble_eq_true rfl) (Nat.le_of_ble_eq_true rfl) dX9_init_59 (fun q20 H hP hD hS => ?_)
  obtain ⟨tl21, et21⟩ : ∃ z : va_W, z = tl18 ++ ([(q20, .inl (cz 0, 35, .inl (fun _ => 0)))] : va_W) := ⟨_, rfl⟩
  have gt21_0 : tl21[0]? = some (q1, .inl (cz 0, 4, .inl (fun _ => 0))) := by rw [et21]; exact ga_l gt18_0
  replace htl : tl21.length = 7 := by rw [et21, List.length_append, htl]; rfl
  have hP : va_P D vwCl ((h0, .inr (9, fs19)) :: tl21) H := by rw [et21]; exact hP
  have hD : va_D A ((h0, .inr (9, fs19)) :: tl21) := by rw [et21]; exact hD
  refine n_putF X hin hP hD hS 0 17 qk_9_34 rfl rfl rfl (by rw [hfl]; decide) dX9_init_61 (fun H locs hP hD hS => ?_)
  obtain ⟨fs22, ef22⟩ : ∃ z : List Value, z = fs19.set 17 (.ref q20) := ⟨_, rfl⟩
  have gf22_1 : fs22[1]? = some (.ref q1) := by rw [ef22]; exact ga_n (by decide) gf19_1
  replace hfl : fs22.length = 51 := by rw [ef22, List.length_set]; exact hfl
  have hP : va_P D vwCl ((h0, .inr (9, fs22)) :: tl21) H := by rw [ef22]; exact hP
  have hD : va_D A ((h0, .inr (9, fs22)) :: tl21) := by rw [ef22]; exact hD
  refine lv_aload_n hx hb dX9_init_64 rfl (lv_at hl 0 rfl) ?_
  refine lv_bipush (v := 90) hx hb dX9_init_65 (by decide) ?_
  refine n_newa (ty := .int) (N' := 90) (a0 := (90, .inl (fun _ => 0))) X hP hD hS hA 0 rfl rfl gm_258 (fun _ => rfl) (by decide) (by decide) (by decide) (Nat.le_of_ble_eq_true rfl) (Nat.le_of_ble_eq_true rfl) dX9_init_67 (fun q23 H hP hD hS => ?_)
  obtain ⟨tl24, et24⟩ : ∃ z : va_W, z = tl21 ++ ([(q23, .inl (cz 0, 90, .inl (fun _ => 0)))] : va_W) := ⟨_, rfl⟩
  have gt24_0 : tl24[0]? = some (q1, .inl (cz 0, 4, .inl (fun _ => 0))) := by rw [et24]; exact ga_l gt21_0
  replace htl : tl24.length = 8 := by rw [et24, List.length_append, htl]; rfl
  have hP : va_P D vwCl ((h0, .inr (9, fs22)) :: tl24) H := by rw [et24]; exact hP
  have hD : va_D A ((h0, .inr (9, fs22)) :: tl24) := by rw [et24]; exact hD
  refine n_putF X hin hP hD hS 0 18 qk_9_37 rfl rfl rfl (by rw [hfl]; decide) dX9_init_69 (fun H locs hP hD hS => ?_)
  obtain ⟨fs25, ef25⟩ : ∃ z : List Value, z = fs22.set 18 (.ref q23) := ⟨_, rfl⟩
  have gf25_1 : fs25[1]? = some (.ref q1) := by rw [ef25]; exact ga_n (by decide) gf22_1
  replace hfl : fs25.length = 51 := by rw [ef25, List.length_set]; exact hfl
  have hP : va_P D vwCl ((h0, .inr (9, fs25)) :: tl24) H := by rw [ef25]; exact hP
  have hD : va_D A ((h0, .inr (9, fs25)) :: tl24) := by rw [ef25]; exact hD
  refine lv_aload_n hx hb dX9_init_72 rfl (lv_at hl 0 rfl) ?_
  refine lv_bipush (v := 100) hx hb dX9_init_73 (by decide) ?_
  refine n_newa (ty := .int) (N' := 100) (a0 := (100, .inl (fun _ => 0))) X hP hD hS hA 0 rfl rfl gm_258 (fun _ => rfl) (by decide) (by decide) (by decide) (Nat.le_of_ble_eq_true rfl) (Nat.le_of_ble_eq_true rfl) dX9_init_75 (fun q26 H hP hD hS => ?_)
  obtain ⟨tl27, et27⟩ : ∃ z : va_W, z = tl24 ++ ([(q26, .inl (cz 0, 100, .inl (fun _ => 0)))] : va_W) := ⟨_, rfl⟩
  have gt27_0 : tl27[0]? = some (q1, .inl (cz 0, 4, .inl (fun _ => 0))) := by rw [et27]; exact ga_l gt24_0
  replace htl : tl27.length = 9 := by rw [et27, List.length_append, htl]; rfl
  have hP : va_P D vwCl ((h0, .inr (9, fs25)) :: tl27) H := by rw [et27]; exact hP
  have hD : va_D A ((h0, .inr (9, fs25)) :: tl27) := by rw [et27]; exact hD
  refine n_putF X hin hP hD hS 0 19 qk_9_40 rfl rfl rfl (by rw [hfl]; decide) dX9_init_77 (fun H locs hP hD hS => ?_)
  obtain ⟨fs28, ef28⟩ : ∃ z : List Value, z = fs25.set 19 (.ref q26) := ⟨_, rfl⟩
  have gf28_1 : fs28[1]? = some (.ref q1) := by rw [ef28]; exact ga_n (by decide) gf25_1
  replace hfl : fs28.length = 51 := by rw [ef28, List.length_set]; exact hfl
  have hP : va_P D vwCl ((h0, .inr (9, fs28)) :: tl27) H := by rw [ef28]; exact hP
  have hD : va_D A ((h0, .inr (9, fs28)) :: tl27) := by rw [ef28]; exact hD
  refine lv_aload_n hx hb dX9_init_80 rfl (lv_at hl 0 rfl) ?_
  refine lv_bipush (v := 80) hx hb dX9_init_81 (by decide) ?_
  refine n_newa (ty := .int) (N' := 80) (a0 := (80, .inl (fun _ => 0))) X hP hD hS hA 0 rfl rfl gm_258 (fun _ => rfl) (by decide) (by decide) (by decide) (Nat.le_of_ble_eq_true rfl) (Nat.le_of_ble_eq_true rfl) dX9_init_83 (fun q29 H hP hD hS => ?_)
  obtain ⟨tl30, et30⟩ : ∃ z : va_W, z = tl27 ++ ([(q29, .inl (cz 0, 80, .inl (fun _ => 0)))] : va_W) := ⟨_, rfl⟩
  have gt30_0 : tl30[0]? = some (q1, .inl (cz 0, 4, .inl (fun _ => 0))) := by rw [et30]; exact ga_l gt27_0
  replace htl : tl30.length = 10 := by rw [et30, List.length_append, htl]; rfl
  have hP : va_P D vwCl ((h0, .inr (9, fs28)) :: tl30) H := by rw [et30]; exact hP
  have hD : va_D A ((h0, .inr (9, fs28)) :: tl30) := by rw [et30]; exact hD
  refine n_putF X hin hP hD hS 0 20 qk_9_43 rfl rfl rfl (by rw [hfl]; decide) dX9_init_85 (fun H locs hP hD hS => ?_)
  obtain ⟨fs31, ef31⟩ : ∃ z : List Value, z = fs28.set 20 (.ref q29) := ⟨_, rfl⟩
  have gf31_1 : fs31[1]? = some (.ref q1) := by rw [ef31]; exact ga_n (by decide) gf28_1
  replace hfl : fs31.length = 51 := by rw [ef31, List.length_set]; exact hfl
  have hP : va_P D vwCl ((h0, .inr (9, fs31)) :: tl30) H := by rw [ef31]; exact hP
  have hD : va_D A ((h0, .inr (9, fs31)) :: tl30) := by rw [ef31]; exact hD
  refine lv_aload_n hx hb dX9_init_88 rfl (lv_at hl 0 rfl) ?_
  refine lv_sipush (v := 300) hx hb dX9_init_89 (by decide) ?_
  refine n_newa (ty := .int) (N' := 300) (a0 := (300, .inl (fun _ => 0))) X hP hD hS hA 0 rfl rfl gm_258 (fun _ => rfl) (by decide) (by decide) (by decide) (Nat.le_of_ble_eq_true rfl) (Nat.le_of_ble_eq_true rfl) dX9_init_92 (fun q32 H hP hD hS => ?_)
  obtain ⟨tl33, et33⟩ : ∃ z : va_W, z = tl30 ++ ([(q32, .inl (cz 0, 300, .inl (fun _ => 0)))] : va_W) := ⟨_, rfl⟩
  have gt33_0 : tl33[0]? = some (q1, .inl (cz 0, 4, .inl (fun _ => 0))) := by rw [et33]; exact ga_l gt30_0
  replace htl : tl33.length = 11 := by rw [et33, List.length_append, htl]; rfl
  have hP : va_P D vwCl ((h0, .inr (9, fs31)) :: tl33) H := by rw [et33]; exact hP
  have hD : va_D A ((h0, .inr (9, fs31)) :: tl33) := by rw [et33]; exact hD
  refine n_putF X hin hP hD hS 0 21 qk_9_46 rfl rfl rfl (by rw [hfl]; decide) dX9_init_94 (fun H locs hP hD hS => ?_)
  obtain ⟨fs34, ef34⟩ : ∃ z : List Value, z = fs31.set 21 (.ref q32) := ⟨_, rfl⟩
  have gf34_1 : fs34[1]? = some (.ref q1) := by rw [ef34]; exact ga_n (by decide) gf31_1
  replace hfl : fs34.length = 51 := by rw [ef34, List.length_set]; exact hfl
  have hP : va_P D vwCl ((h0, .inr (9, fs34)) :: tl33) H := by rw [ef34]; exact hP
  have hD : va_D A ((h0, .inr (9, fs34)) :: tl33) := by rw [ef34]; exact hD
  refine lv_aload_n hx hb dX9_init_97 rfl (lv_at hl 0 rfl) ?_
  refine lv_iconst (v := 3) hx hb dX9_init_98 (by decide) ?_
  refine n_newa (ty := .boolean) (N' := 3) (a0 := (3, .inl (fun _ => 0))) X hP hD hS hA 2 rfl rfl gm_309 (fun _ => rfl) (by decide) (by decide) (by decide) (Nat.le_of_ble_eq_true rfl) (Nat.le_of_ble_eq_true rfl) dX9_init_99 (fun q35 H hP hD hS => ?_)
  obtain ⟨tl36, et36⟩ : ∃ z : va_W, z = tl33 ++ ([(q35, .inl (cz 2, 3, .inl (fun _ => 0)))] : va_W) := ⟨_, rfl⟩
  have gt36_0 : tl36[0]? = some (q1, .inl (cz 0, 4, .inl (fun _ => 0))) := by rw [et36]; exact ga_l gt33_0
  replace htl : tl36.length = 12 := by rw [et36, List.length_append, htl]; rfl
  have hP : va_P D vwCl ((h0, .inr (9, fs34)) :: tl36) H := by rw [et36]; exact hP
  have hD : va_D A ((h0, .inr (9, fs34)) :: tl36) := by rw [et36]; exact hD
  refine n_putF X hin hP hD hS 0 22 qk_9_49 rfl rfl rfl (by rw [hfl]; decide) dX9_init_101 (fun H locs hP hD hS => ?_)
  obtain ⟨fs37, ef37⟩ : ∃ z : List Value, z = fs34.set 22 (.ref q35) := ⟨_, rfl⟩
  have gf37_1 : fs37[1]? = some (.ref q1) := by rw [ef37]; exact ga_n (by decide) gf34_1
  replace hfl : fs37.length = 51 := by rw [ef37, List.length_set]; exact hfl
  have hP : va_P D vwCl ((h0, .inr (9, fs37)) :: tl36) H := by rw [ef37]; exact hP
  have hD : va_D A ((h0, .inr (9, fs37)) :: tl36) := by rw [ef37]; exact hD
  refine lv_aload_n hx hb dX9_init_104 rfl (lv_at hl 0 rfl) ?_
  refine lv_bipush (v := 6) hx hb dX9_init_105 (by decide) ?_
  refine n_newa (ty := .int) (N' := 6) (a0 := (6, .inl (fun _ => 0))) X hP hD hS hA 0 rfl rfl gm_258 (fun _ => rfl) (by decide) (by decide) (by decide) (Nat.le_of_ble_eq_true rfl) (Nat.le_of_ble_eq_true rfl) dX9_init_107 (fun q38 H hP hD hS => ?_)
  obtain ⟨tl39, et39⟩ : ∃ z : va_W, z = tl36 ++ ([(q38, .inl (cz 0, 6, .inl (fun _ => 0)))] : va_W) := ⟨_, rfl⟩
  have gt39_0 : tl39[0]? = some (q1, .inl (cz 0, 4, .inl (fun _ => 0))) := by rw [et39]; exact ga_l gt36_0
  replace htl : tl39.length = 13 := by rw [et39, List.length_append, htl]; rfl
  have hP : va_P D vwCl ((h0, .inr (9, fs37)) :: tl39) H := by rw [et39]; exact hP
  have hD : va_D A ((h0, .inr (9, fs37)) :: tl39) := by rw [et39]; exact hD
  refine n_putF X hin hP hD hS 0 28 qk_9_53 rfl rfl rfl (by rw [hfl]; decide) dX9_init_109 (fun H locs hP hD hS => ?_)
  obtain ⟨fs40, ef40⟩ : ∃ z : List Value, z = fs37.set 28 (.ref q38) := ⟨_, rfl⟩
  have gf40_1 : fs40[1]? = some (.ref q1) := by rw [ef40]; exact ga_n (by decide) gf37_1
  replace hfl : fs40.length = 51 := by rw [ef40, List.length_set]; exact hfl
  have hP : va_P D vwCl ((h0, .inr (9, fs40)) :: tl39) H := by rw [ef40]; exact hP
  have hD : va_D A ((h0, .inr (9, fs40)) :: tl39) := by rw [ef40]; exact hD
  refine lv_aload_n hx hb dX9_init_112 rfl (lv_at hl 0 rfl) ?_
  refine lv_bipush (v := 12) hx hb dX9_init_113 (by decide) ?_
  refine n_newa (ty := .int) (N' := 12) (a0 := (12, .inl (fun _ => 0))) X hP hD hS hA 0 rfl rfl gm_258 (fun _ => rfl) (by decide) (by decide) (by decide) (Nat.le_of_ble_eq_true rfl) (Nat.le_of_ble_eq_true rfl) dX9_init_115 (fun q41 H hP hD hS => ?_)
  obtain ⟨tl42, et42⟩ : ∃ z : va_W, z = tl39 ++ ([(q41, .inl (cz 0, 12, .inl (fun _ => 0)))] : va_W) := ⟨_, rfl⟩
  have gt42_0 : tl42[0]? = some (q1, .inl (cz 0, 4, .inl (fun _ => 0))) := by rw [et42]; exact ga_l gt39_0
  replace htl : tl42.length = 14 := by rw [et42, List.length_append, htl]; rfl
  have hP : va_P D vwCl ((h0, .inr (9, fs40)) :: tl42) H := by rw [et42]; exact hP
  have hD : va_D A ((h0, .inr (9, fs40)) :: tl42) := by rw [et42]; exact hD
  refine n_putF X hin hP hD hS 0 29 qk_9_56 rfl rfl rfl (by rw [hfl]; decide) dX9_init_117 (fun H locs hP hD hS => ?_)
  obtain ⟨fs43, ef43⟩ : ∃ z : List Value, z = fs40.set 29 (.ref q41) := ⟨_, rfl⟩
  have gf43_1 : fs43[1]? = some (.ref q1) := by rw [ef43]; exact ga_n (by decide) gf40_1
  replace hfl : fs43.length = 51 := by rw [ef43, List.length_set]; exact hfl
  have hP : va_P D vwCl ((h0, .inr (9, fs43)) :: tl42) H := by rw [ef43]; exact hP
  have hD : va_D A ((h0, .inr (9, fs43)) :: tl42) := by rw [ef43]; exact hD
  refine lv_aload_n hx hb dX9_init_120 rfl (lv_at hl 0 rfl) ?_
  refine lv_bipush (v := 78) hx hb dX9_init_121 (by decide) ?_
  refine n_newa (ty := .int) (N' := 78) (a0 := (78, .inl (fun _ => 0))) X hP hD hS hA 0 rfl rfl gm_258 (fun _ => rfl) (by decide) (by decide) (by decide) (Nat.le_of_ble_eq_true rfl) (Nat.le_of_ble_eq_true rfl) dX9_init_123 (fun q44 H hP hD hS => ?_)
  obtain ⟨tl45, et45⟩ : ∃ z : va_W, z = tl42 ++ ([(q44, .inl (cz 0, 78, .inl (fun _ => 0)))] : va_W) := ⟨_, rfl⟩
  have gt45_0 : tl45[0]? = some (q1, .inl (cz 0, 4, .inl (fun _ => 0))) := by rw [et45]; exact ga_l gt42_0
  replace htl : tl45.length = 15 := by rw [et45, List.length_append, htl]; rfl
  have hP : va_P D vwCl ((h0, .inr (9, fs43)) :: tl45) H := by rw [et45]; exact hP
  have hD : va_D A ((h0, .inr (9, fs43)) :: tl45) := by rw [et45]; exact hD
  refine n_putF X hin hP hD hS 0 30 qk_9_59 rfl rfl rfl (by rw [hfl]; decide) dX9_init_125 (fun H locs hP hD hS => ?_)
  obtain ⟨fs46, ef46⟩ : ∃ z : List Value, z = fs43.set 30 (.ref q44) := ⟨_, rfl⟩
  have gf46_1 : fs46[1]? = some (.ref q1) := by rw [ef46]; exact ga_n (by decide) gf43_1
  replace hfl : fs46.length = 51 := by rw [ef46, List.length_set]; exact hfl
  have hP : va_P D vwCl ((h0, .inr (9, fs46)) :: tl45) H := by rw [ef46]; exact hP
  have hD : va_D A ((h0, .inr (9, fs46)) :: tl45) := by rw [ef46]; exact hD
  refine lv_aload_n hx hb dX9_init_128 rfl (lv_at hl 0 rfl) ?_
  refine lv_bipush (v := 13) hx hb dX9_init_129 (by decide) ?_
  refine n_newa (ty := .int) (N' := 13) (a0 := (13, .inl (fun _ => 0))) X hP hD hS hA 0 rfl rfl gm_258 (fun _ => rfl) (by decide) (by decide) (by decide) (Nat.le_of_ble_eq_true rfl) (Nat.le_of_ble_eq_true rfl) dX9_init_131 (fun q47 H hP hD hS => ?_)
  obtain ⟨tl48, et48⟩ : ∃ z : va_W, z = tl45 ++ ([(q47, .inl (cz 0, 13, .inl (fun _ => 0)))] : va_W) := ⟨_, rfl⟩
  have gt48_0 : tl48[0]? = some (q1, .inl (cz 0, 4, .inl (fun _ => 0))) := by rw [et48]; exact ga_l gt45_0
  replace htl : tl48.length = 16 := by rw [et48, List.length_append, htl]; rfl
  have hP : va_P D vwCl ((h0, .inr (9, fs46)) :: tl48) H := by rw [et48]; exact hP
  have hD : va_D A ((h0, .inr (9, fs46)) :: tl48) := by rw [et48]; exact hD
  refine n_putF X hin hP hD hS 0 31 qk_9_62 rfl rfl rfl (by rw [hfl]; decide) dX9_init_133 (fun H locs hP hD hS => ?_)
  obtain ⟨fs49, ef49⟩ : ∃ z : List Value, z = fs46.set 31 (.ref q47) := ⟨_, rfl⟩
  have gf49_1 : fs49[1]? = some (.ref q1) := by rw [ef49]; exact ga_n (by decide) gf46_1
  replace hfl : fs49.length = 51 := by rw [ef49, List.length_set]; exact hfl
  have hP : va_P D vwCl ((h0, .inr (9, fs49)) :: tl48) H := by rw [ef49]; exact hP
  have hD : va_D A ((h0, .inr (9, fs49)) :: tl48) := by rw [ef49]; exact hD
  refine lv_aload_n hx hb dX9_init_136 rfl (lv_at hl 0 rfl) ?_
  refine lv_bipush (v := 6) hx hb dX9_init_137 (by decide) ?_
  refine n_newa (ty := .int) (N' := 6) (a0 := (6, .inl (fun _ => 0))) X hP hD hS hA 0 rfl rfl gm_258 (fun _ => rfl) (by decide) (by decide) (by decide) (Nat.le_of_ble_eq_true rfl) (Nat.le_of_ble_eq_true rfl) dX9_init_139 (fun q50 H hP hD hS => ?_)
  obtain ⟨tl51, et51⟩ : ∃ z : va_W, z = tl48 ++ ([(q50, .inl (cz 0, 6, .inl (fun _ => 0)))] : va_W) := ⟨_, rfl⟩
  have gt51_0 : tl51[0]? = some (q1, .inl (cz 0, 4, .inl (fun _ => 0))) := by rw [et51]; exact ga_l gt48_0
  replace htl : tl51.length = 17 := by rw [et51, List.length_append, htl]; rfl
  have hP : va_P D vwCl ((h0, .inr (9, fs49)) :: tl51) H := by rw [et51]; exact hP
  have hD : va_D A ((h0, .inr (9, fs49)) :: tl51) := by rw [et51]; exact hD
  refine n_putF X hin hP hD hS 0 32 qk_9_65 rfl rfl rfl (by rw [hfl]; decide) dX9_init_141 (fun H locs hP hD hS => ?_)
  obtain ⟨fs52, ef52⟩ : ∃ z : List Value, z = fs49.set 32 (.ref q50) := ⟨_, rfl⟩
  have gf52_1 : fs52[1]? = some (.ref q1) := by rw [ef52]; exact ga_n (by decide) gf49_1
  replace hfl : fs52.length = 51 := by rw [ef52, List.length_set]; exact hfl
  have hP : va_P D vwCl ((h0, .inr (9, fs52)) :: tl51) H := by rw [ef52]; exact hP
  have hD : va_D A ((h0, .inr (9, fs52)) :: tl51) := by rw [ef52]; exact hD
  refine lv_aload_n hx hb dX9_init_144 rfl (lv_at hl 0 rfl) ?_
  refine lv_bipush (v := 6) hx hb dX9_init_145 (by decide) ?_
  refine n_newa (ty := .int) (N' := 6) (a0 := (6, .inl (fun _ => 0))) X hP hD hS hA 0 rfl rfl gm_258 (fun _ => rfl) (by decide) (by decide) (by decide) (Nat.le_of_ble_eq_true rfl) (Nat.le_of_ble_eq_true rfl) dX9_init_147 (fun q53 H hP hD hS => ?_)
  obtain ⟨tl54, et54⟩ : ∃ z : va_W, z = tl51 ++ ([(q53, .inl (cz 0, 6, .inl (fun _ => 0)))] : va_W) := ⟨_, rfl⟩
  have gt54_0 : tl54[0]? = some (q1, .inl (cz 0, 4, .inl (fun _ => 0))) := by rw [et54]; exact ga_l gt51_0
  replace htl : tl54.length = 18 := by rw [et54, List.length_append, htl]; rfl
  have hP : va_P D vwCl ((h0, .inr (9, fs52)) :: tl54) H := by rw [et54]; exact hP
  have hD : va_D A ((h0, .inr (9, fs52)) :: tl54) := by rw [et54]; exact hD
  refine n_putF X hin hP hD hS 0 33 qk_9_68 rfl rfl rfl (by rw [hfl]; decide) dX9_init_149 (fun H locs hP hD hS => ?_)
  obtain ⟨fs55, ef55⟩ : ∃ z : List Value, z = fs52.set 33 (.ref q53) := ⟨_, rfl⟩
  have gf55_1 : fs55[1]? = some (.ref q1) := by rw [ef55]; exact ga_n (by decide) gf52_1
  replace hfl : fs55.length = 51 := by rw [ef55, List.length_set]; exact hfl
  have hP : va_P D vwCl ((h0, .inr (9, fs55)) :: tl54) H := by rw [ef55]; exact hP
  have hD : va_D A ((h0, .inr (9, fs55)) :: tl54) := by rw [ef55]; exact hD
  refine lv_aload_n hx hb dX9_init_152 rfl (lv_at hl 0 rfl) ?_
  refine lv_bipush (v := 6) hx hb dX9_init_153 (by decide) ?_
  refine n_newa (ty := .int) (N' := 6) (a0 := (6, .inl (fun _ => 0))) X hP hD hS hA 0 rfl rfl gm_258 (fun _ => rfl) (by decide) (by decide) (by decide) (Nat.le_of_ble_eq_true rfl) (Nat.le_of_ble_eq_true rfl) dX9_init_155 (fun q56 H hP hD hS => ?_)
  obtain ⟨tl57, et57⟩ : ∃ z : va_W, z = tl54 ++ ([(q56, .inl (cz 0, 6, .inl (fun _ => 0)))] : va_W) := ⟨_, rfl⟩
  have gt57_0 : tl57[0]? = some (q1, .inl (cz 0, 4, .inl (fun _ => 0))) := by rw [et57]; exact ga_l gt54_0
  replace htl : tl57.length = 19 := by rw [et57, List.length_append, htl]; rfl
  have hP : va_P D vwCl ((h0, .inr (9, fs55)) :: tl57) H := by rw [et57]; exact hP
  have hD : va_D A ((h0, .inr (9, fs55)) :: tl57) := by rw [et57]; exact hD
  refine n_putF X hin hP hD hS 0 34 qk_9_71 rfl rfl rfl (by rw [hfl]; decide) dX9_init_157 (fun H locs hP hD hS => ?_)
  obtain ⟨fs58, ef58⟩ : ∃ z : List Value, z = fs55.set 34 (.ref q56) := ⟨_, rfl⟩
  have gf58_1 : fs58[1]? = some (.ref q1) := by rw [ef58]; exact ga_n (by decide) gf55_1
  replace hfl : fs58.length = 51 := by rw [ef58, List.length_set]; exact hfl
  have hP : va_P D vwCl ((h0, .inr (9, fs58)) :: tl57) H := by rw [ef58]; exact hP
  have hD : va_D A ((h0, .inr (9, fs58)) :: tl57) := by rw [ef58]; exact hD
  refine lv_aload_n hx hb dX9_init_160 rfl (lv_at hl 0 rfl) ?_
  refine lv_iconst (v := 5) hx hb dX9_init_161 (by decide) ?_
  refine n_newa (ty := .int) (N' := 5) (a0 := (5, .inl (fun _ => 0))) X hP hD hS hA 0 rfl rfl gm_258 (fun _ => rfl) (by decide) (by decide) (by decide) (Nat.le_of_ble_eq_true rfl) (Nat.le_of_ble_eq_true rfl) dX9_init_162 (fun q59 H hP hD hS => ?_)
  obtain ⟨tl60, et60⟩ : ∃ z : va_W, z = tl57 ++ ([(q59, .inl (cz 0, 5, .inl (fun _ => 0)))] : va_W) := ⟨_, rfl⟩
  have gt60_0 : tl60[0]? = some (q1, .inl (cz 0, 4, .inl (fun _ => 0))) := by rw [et60]; exact ga_l gt57_0
  replace htl : tl60.length = 20 := by rw [et60, List.length_append, htl]; rfl
  have hP : va_P D vwCl ((h0, .inr (9, fs58)) :: tl60) H := by rw [et60]; exact hP
  have hD : va_D A ((h0, .inr (9, fs58)) :: tl60) := by rw [et60]; exact hD
  refine n_putF X hin hP hD hS 0 39 qk_9_74 rfl rfl rfl (by rw [hfl]; decide) dX9_init_164 (fun H locs hP hD hS => ?_)
  obtain ⟨fs61, ef61⟩ : ∃ z : List Value, z = fs58.set 39 (.ref q59) := ⟨_, rfl⟩
  have gf61_1 : fs61[1]? = some (.ref q1) := by rw [ef61]; exact ga_n (by decide) gf58_1
  replace hfl : fs61.length = 51 := by rw [ef61, List.length_set]; exact hfl
  have hP : va_P D vwCl ((h0, .inr (9, fs61)) :: tl60) H := by rw [ef61]; exact hP
  have hD : va_D A ((h0, .inr (9, fs61)) :: tl60) := by rw [ef61]; exact hD
  refine lv_aload_n hx hb dX9_init_167 rfl (lv_at hl 0 rfl) ?_
  refine lv_iconst (v := 5) hx hb dX9_init_168 (by decide) ?_
  refine n_newa (ty := .int) (N' := 5) (a0 := (5, .inl (fun _ => 0))) X hP hD hS hA 0 rfl rfl gm_258 (fun _ => rfl) (by decide) (by decide) (by decide) (Nat.le_of_ble_eq_true rfl) (Nat.le_of_ble_eq_true rfl) dX9_init_169 (fun q62 H hP hD hS => ?_)
  obtain ⟨tl63, et63⟩ : ∃ z : va_W, z = tl60 ++ ([(q62, .inl (cz 0, 5, .inl (fun _ => 0)))] : va_W) := ⟨_, rfl⟩
  have gt63_0 : tl63[0]? = some (q1, .inl (cz 0, 4, .inl (fun _ => 0))) := by rw [et63]; exact ga_l gt60_0
  replace htl : tl63.length = 21 := by rw [et63, List.length_append, htl]; rfl
  have hP : va_P D vwCl ((h0, .inr (9, fs61)) :: tl63) H := by rw [et63]; exact hP
  have hD : va_D A ((h0, .inr (9, fs61)) :: tl63) := by rw [et63]; exact hD
  refine n_putF X hin hP hD hS 0 40 qk_9_77 rfl rfl rfl (by rw [hfl]; decide) dX9_init_171 (fun H locs hP hD hS => ?_)
  obtain ⟨fs64, ef64⟩ : ∃ z : List Value, z = fs61.set 40 (.ref q62) := ⟨_, rfl⟩
  have gf64_1 : fs64[1]? = some (.ref q1) := by rw [ef64]; exact ga_n (by decide) gf61_1
  replace hfl : fs64.length = 51 := by rw [ef64, List.length_set]; exact hfl
  have hP : va_P D vwCl ((h0, .inr (9, fs64)) :: tl63) H := by rw [ef64]; exact hP
  have hD : va_D A ((h0, .inr (9, fs64)) :: tl63) := by rw [ef64]; exact hD
  refine lv_aload_n hx hb dX9_init_174 rfl (lv_at hl 0 rfl) ?_
  refine lv_sipush (v := 1300) hx hb dX9_init_175 (by decide) ?_
  refine n_newa (ty := .int) (N' := 1300) (a0 := (1300, .inl (fun _ => 0))) X hP hD hS hA 0 rfl rfl gm_258 (fun _ => rfl) (by decide) (by decide) (by decide) (Nat.le_of_ble_eq_true rfl) (Nat.le_of_ble_eq_true rfl) dX9_init_178 (fun q65 H hP hD hS => ?_)
  obtain ⟨tl66, et66⟩ : ∃ z : va_W, z = tl63 ++ ([(q65, .inl (cz 0, 1300, .inl (fun _ => 0)))] : va_W) := ⟨_, rfl⟩
  have gt66_0 : tl66[0]? = some (q1, .inl (cz 0, 4, .inl (fun _ => 0))) := by rw [et66]; exact ga_l gt63_0
  replace htl : tl66.length = 22 := by rw [et66, List.length_append, htl]; rfl
  have hP : va_P D vwCl ((h0, .inr (9, fs64)) :: tl66) H := by rw [et66]; exact hP
  have hD : va_D A ((h0, .inr (9, fs64)) :: tl66) := by rw [et66]; exact hD
  refine n_putF X hin hP hD hS 0 46 qk_9_80 rfl rfl rfl (by rw [hfl]; decide) dX9_init_180 (fun H locs hP hD hS => ?_)
  obtain ⟨fs67, ef67⟩ : ∃ z : List Value, z = fs64.set 46 (.ref q65) := ⟨_, rfl⟩
  have gf67_1 : fs67[1]? = some (.ref q1) := by rw [ef67]; exact ga_n (by decide) gf64_1
  replace hfl : fs67.length = 51 := by rw [ef67, List.length_set]; exact hfl
  have hP : va_P D vwCl ((h0, .inr (9, fs67)) :: tl66) H := by rw [ef67]; exact hP
  have hD : va_D A ((h0, .inr (9, fs67)) :: tl66) := by rw [ef67]; exact hD
  refine lv_iconst (v := 0) hx hb dX9_init_183 (by decide) ?_
  refine lv_istore_n (lv' := [(1, .int 0), (0, .ref h0)]) hx hb dX9_init_184 rfl hl (by decide) rfl (fun ls hl => ?_)
  refine lv_iload_n hx hb dX9_init_185 rfl (lv_at hl 0 rfl) ?_
  refine lv_iconst (v := 4) hx hb dX9_init_186 (by decide) ?_
  refine lv_icmp_ge (tgt := 203) hx hb dX9_init_187 (by decide) (fun c => absurd c (by decide)) (fun _ => ?_)
  refine lv_aload_n hx hb dX9_init_190 rfl (lv_at hl 1 rfl) ?_
  refine n_get (v := .ref q1) X hP 0 1 fk_9_7 rfl gf67_1 dX9_init_191 ?_
  refine lv_iload_n hx hb dX9_init_194 rfl (lv_at hl 0 rfl) ?_
  refine lv_iconst (v := (-1)) hx hb dX9_init_195 (by decide) ?_
  refine va_iast hx hb X.2.2.2.2.2 hP hD hS 1 0 (cA := cz 0) (n := 4) (f := (fun _ => 0)) gt66_0 rfl (v_in (rg_k (by decide) : rg 0 0 0) (by decide)) dX9_init_196 (fun H locs hP hD hS => ?_)
  obtain ⟨tl68, et68⟩ : ∃ z : va_W, z = tl66.set 0 (q1, .inl (cz 0, 4, .inl (upd (fun _ => 0) (Int32.toNatClampNeg 0) (-1)))) := ⟨_, rfl⟩
  have gt68_0 : tl68[0]? = some (q1, .inl (cz 0, 4, .inl (upd (fun _ => 0) (Int32.toNatClampNeg 0) (-1)))) := by rw [et68]; exact ga_s htl (by decide)
  replace htl : tl68.length = 22 := by rw [et68, List.length_set]; exact htl
  have hP : va_P D vwCl ((h0, .inr (9, fs67)) :: tl68) H := by rw [et68]; exact hP
  have hD : va_D A ((h0, .inr (9, fs67)) :: tl68) := by rw [et68]; exact hD
  refine lv_iinc (v := 1) (lv' := [(1, .int 1), (0, .ref h0)]) hx hb dX9_init_197 hl (k := 0) rfl (by decide) (by decide) rfl (fun ls hl => ?_)
  refine lv_goto (tgt := 185) hx hb dX9_init_200 (by decide) ?_
  refine lv_iload_n hx hb dX9_init_185 rfl (lv_at hl 0 rfl) ?_
  refine lv_iconst (v := 4) hx hb dX9_init_186 (by decide) ?_
  refine lv_icmp_ge (tgt := 203) hx hb dX9_init_187 (by decide) (fun c => absurd c (by decide)) (fun _ => ?_)
  refine lv_aload_n hx hb dX9_init_190 rfl (lv_at hl 1 rfl) ?_
  refine n_get (v := .ref q1) X hP 0 1 fk_9_7 rfl gf67_1 dX9_init_191 ?_
  refine lv_iload_n hx hb dX9_init_194 rfl (lv_at hl 0 rfl) ?_
  refine lv_iconst (v := (-1)) hx hb dX9_init_195 (by decide) ?_
  refine va_iast hx hb X.2.2.2.2.2 hP hD hS 1 0 (cA := cz 0) (n := 4) (f := (upd (fun _ => 0) (Int32.toNatClampNeg 0) (-1))) gt68_0 rfl (v_in (rg_k (by decide) : rg 1 1 1) (by decide)) dX9_init_196 (fun H locs hP hD hS => ?_)
  obtain ⟨tl69, et69⟩ : ∃ z : va_W, z = tl68.set 0 (q1, .inl (cz 0, 4, .inl (upd (upd (fun _ => 0) (Int32.toNatClampNeg 0) (-1)) (Int32.toNatClampNeg 1) (-1)))) := ⟨_, rfl⟩
  have gt69_0 : tl69[0]? = some (q1, .inl (cz 0, 4, .inl (upd (upd (fun _ => 0) (Int32.toNatClampNeg 0) (-1)) (Int32.toNatClampNeg 1) (-1)))) := by rw [et69]; exact ga_s htl (by decide)
  replace htl : tl69.length = 22 := by rw [et69, List.length_set]; exact htl
  have hP : va_P D vwCl ((h0, .inr (9, fs67)) :: tl69) H := by rw [et69]; exact hP
  have hD : va_D A ((h0, .inr (9, fs67)) :: tl69) := by rw [et69]; exact hD
  refine lv_iinc (v := 2) (lv' := [(1, .int 2), (0, .ref h0)]) hx hb dX9_init_197 hl (k := 0) rfl (by decide) (by decide) rfl (fun ls hl => ?_)
  refine lv_goto (tgt := 185) hx hb dX9_init_200 (by decide) ?_
  refine lv_iload_n hx hb dX9_init_185 rfl (lv_at hl 0 rfl) ?_
  refine lv_iconst (v := 4) hx hb dX9_init_186 (by decide) ?_
  refine lv_icmp_ge (tgt := 203) hx hb dX9_init_187 (by decide) (fun c => absurd c (by decide)) (fun _ => ?_)
  refine lv_aload_n hx hb dX9_init_190 rfl (lv_at hl 1 rfl) ?_
  refine n_get (v := .ref q1) X hP 0 1 fk_9_7 rfl gf67_1 dX9_init_191 ?_
  refine lv_iload_n hx hb dX9_init_194 rfl (lv_at hl 0 rfl) ?_
  refine lv_iconst (v := (-1)) hx hb dX9_init_195 (by decide) ?_
  refine va_iast hx hb X.2.2.2.2.2 hP hD hS 1 0 (cA := cz 0) (n := 4) (f := (upd (upd (fun _ => 0) (Int32.toNatClampNeg 0) (-1)) (Int32.toNatClampNeg 1) (-1))) gt69_0 rfl (v_in (rg_k (by decide) : rg 2 2 2) (by decide)) dX9_init_196 (fun H locs hP hD hS => ?_)
  obtain ⟨tl70, et70⟩ : ∃ z : va_W, z = tl69.set 0 (q1, .inl (cz 0, 4, .inl (upd (upd (upd (fun _ => 0) (Int32.toNatClampNeg 0) (-1)) (Int32.toNatClampNeg 1) (-1)) (Int32.toNatClampNeg 2) (-1)))) := ⟨_, rfl⟩
  have gt70_0 : tl70[0]? = some (q1, .inl (cz 0, 4, .inl (upd (upd (upd (fun _ => 0) (Int32.toNatClampNeg 0) (-1)) (Int32.toNatClampNeg 1) (-1)) (Int32.toNatClampNeg 2) (-1)))) := by rw [et70]; exact ga_s htl (by decide)
  replace htl : tl70.length = 22 := by rw [et70, List.length_set]; exact htl
  have hP : va_P D vwCl ((h0, .inr (9, fs67)) :: tl70) H := by rw [et70]; exact hP
  have hD : va_D A ((h0, .inr (9, fs67)) :: tl70) := by rw [et70]; exact hD
  refine lv_iinc (v := 3) (lv' := [(1, .int 3), (0, .ref h0)]) hx hb dX9_init_197 hl (k := 0) rfl (by decide) (by decide) rfl (fun ls hl => ?_)
  refine lv_goto (tgt := 185) hx hb dX9_init_200 (by decide) ?_
  refine lv_iload_n hx hb dX9_init_185 rfl (lv_at hl 0 rfl) ?_
  refine lv_iconst (v := 4) hx hb dX9_init_186 (by decide) ?_
  refine lv_icmp_ge (tgt := 203) hx hb dX9_init_187 (by decide) (fun c => absurd c (by decide)) (fun _ => ?_)
  refine lv_aload_n hx hb dX9_init_190 rfl (lv_at hl 1 rfl) ?_
  refine n_get (v := .ref q1) X hP 0 1 fk_9_7 rfl gf67_1 dX9_init_191 ?_
  refine lv_iload_n hx hb dX9_init_194 rfl (lv_at hl 0 rfl) ?_
  refine lv_iconst (v := (-1)) hx hb dX9_init_195 (by decide) ?_
  refine va_iast hx hb X.2.2.2.2.2 hP hD hS 1 0 (cA := cz 0) (n := 4) (f := (upd (upd (upd (fun _ => 0) (Int32.toNatClampNeg 0) (-1)) (Int32.toNatClampNeg 1) (-1)) (Int32.toNatClampNeg 2) (-1))) gt70_0 rfl (v_in (rg_k (by decide) : rg 3 3 3) (by decide)) dX9_init_196 (fun H locs hP hD hS => ?_)
  obtain ⟨tl71, et71⟩ : ∃ z : va_W, z = tl70.set 0 (q1, .inl (cz 0, 4, .inl (upd (upd (upd (upd (fun _ => 0) (Int32.toNatClampNeg 0) (-1)) (Int32.toNatClampNeg 1) (-1)) (Int32.toNatClampNeg 2) (-1)) (Int32.toNatClampNeg 3) (-1)))) := ⟨_, rfl⟩
  have gt71_0 : tl71[0]? = some (q1, .inl (cz 0, 4, .inl (upd (upd (upd (upd (fun _ => 0) (Int32.toNatClampNeg 0) (-1)) (Int32.toNatClampNeg 1) (-1)) (Int32.toNatClampNeg 2) (-1)) (Int32.toNatClampNeg 3) (-1)))) := by rw [et71]; exact ga_s htl (by decide)
  replace htl : tl71.length = 22 := by rw [et71, List.length_set]; exact htl
  have hP : va_P D vwCl ((h0, .inr (9, fs67)) :: tl71) H := by rw [et71]; exact hP
  have hD : va_D A ((h0, .inr (9, fs67)) :: tl71) := by rw [et71]; exact hD
  refine lv_iinc (v := 4) (lv' := [(1, .int 4), (0, .ref h0)]) hx hb dX9_init_197 hl (k := 0) rfl (by decide) (by decide) rfl (fun ls hl => ?_)
  refine lv_goto (tgt := 185) hx hb dX9_init_200 (by decide) ?_
  refine lv_iload_n hx hb dX9_init_185 rfl (lv_at hl 0 rfl) ?_
  refine lv_iconst (v := 4) hx hb dX9_init_186 (by decide) ?_
  refine lv_icmp_ge (tgt := 203) hx hb dX9_init_187 (by decide) (fun _ => ?_) (fun c => absurd (by decide) c)
  subst hAe
  subst et71 et70 et69 et68 ef67 et66 ef64 et63 ef61 et60 ef58 et57 ef55 et54 ef52 et51 ef49 et48 ef46 et45 ef43 et42 ef40 et39 ef37 et36 ef34 et33 ef31 et30 ef28 et27 ef25 et24 ef22 et21 ef19 et18 ef16 ef15 et14 ef12 et11 ef9 et8 ef6 et5 ef3 et2 et0 ef0
  exact n_ret (w := fun f => mW cz h0 f) X hr hlk (fun k => ([q1, q4, q7, q10, q13, q17, q20, q23, q26, q29, q32, q35, q38, q41, q44, q47, q50, q53, q56, q59, q62, q65] : List Nat).getD k 0) hP hD hS (Nat.le_of_ble_eq_true rfl) (Nat.le_of_ble_eq_true rfl) dX9_init_203
