def tpW (cz : Nat → ClassId) (h0 : Nat)  (f : Nat → Nat) : va_W := [(h0, .inr (7, [.ref (f 0), .int 0])), ((f 0), .inl (cz 1, 700, .inl (fun _ => 0)))]
set_option maxRecDepth 100000 in
set_option maxHeartbeats 4000000 in
theorem ct_tp {l : Launch} {D : va_G} {cz : Nat → ClassId} (h0 sz : Nat)  : CtN (Nat → Nat) l yX7_init cX7_init 1 ({ frames := 1, cells := 1, slots := 700, locals := 12 } : Room) D cz sz [(h0, .inr (7, [.null, .int 0]))] noNW [.ref h0] (fun f => tpW cz h0  f) 1 700 := by
  refine n_entry pn_X7_init rfl (Nat.le_of_ble_eq_true rfl) ?_
  intro p e s m args below meth c ls A hAe X hr hlk hin hP hD hA hl hS hN
  have hx := X.1
  have hb := X.2.1
  have hl : lv_has ls 1 [(0, .ref h0)] := hl
  refine lv_aload_n hx hb dX7_init_0 rfl (lv_at hl 0 rfl) ?_
  refine n_obj X gm_139 gm_132 gm_oc hl.1 dX7_init_1 (Nat.le_of_ble_eq_true rfl) (Nat.le_of_ble_eq_true rfl) ?_
  refine lv_aload_n hx hb dX7_init_4 rfl (lv_at hl 0 rfl) ?_
  refine lv_sipush (v := 700) hx hb dX7_init_5 (by decide) ?_
  refine n_newa (ty := .byte) (N' := 700) (a0 := (700, .inl (fun _ => 0))) X hP hD hS hA 1 rfl rfl gm_149 (fun _ => rfl) (by decide) (by decide) (by decide) (Nat.le_of_ble_eq_true rfl) (Nat.le_of_ble_eq_true rfl) dX7_init_8 (fun q1 H hP hD hS => ?_)
  have hP : va_P D vwCl ([(h0, .inr (7, [.null, .int 0])), (q1, .inl (cz 1, 700, .inl (fun _ => 0)))]) H := hP
  have hD : va_D A ([(h0, .inr (7, [.null, .int 0])), (q1, .inl (cz 1, 700, .inl (fun _ => 0)))]) := hD
  refine n_putF X hin hP hD hS 0 0 qk_7_9 rfl rfl rfl (Nat.le_of_ble_eq_true rfl) dX7_init_10 (fun H locs hP hD hS => ?_)
  have hP : va_P D vwCl ([(h0, .inr (7, [.ref q1, .int 0])), (q1, .inl (cz 1, 700, .inl (fun _ => 0)))]) H := hP
  have hD : va_D A ([(h0, .inr (7, [.ref q1, .int 0])), (q1, .inl (cz 1, 700, .inl (fun _ => 0)))]) := hD
  subst hAe
  exact n_ret (w := fun f => tpW cz h0  f) X hr hlk (fun k => ([q1] : List Nat).getD k 0) hP hD hS (Nat.le_of_ble_eq_true rfl) (Nat.le_of_ble_eq_true rfl) dX7_init_13

def stW (cz : Nat → ClassId) (h0 : Nat)  (f : Nat → Nat) : va_W := [(h0, .inr (6, [.ref (f 0), .ref (f 1), .ref (f 2), .ref (f 3), .ref (f 4), .ref (f 5), .ref (f 6), .ref (f 7), .ref (f 8), .ref (f 9), .int 0, .int 0, .int 0, .int 0, .int 0, .int 0, .int 0, .int 0])), ((f 0), .inl (cz 0, 6, .inl (fun _ => 0))), ((f 1), .inl (cz 0, 6, .inl (fun _ => 0))), ((f 2), .inl (cz 0, 6, .inl (fun _ => 0))), ((f 3), .inl (cz 0, 10, .inl (fun _ => 0))), ((f 4), .inl (cz 0, 10, .inl (fun _ => 0))), ((f 5), .inl (cz 0, 8, .inl (fun _ => 0))), ((f 6), .inl (cz 0, 8, .inl (fun _ => 0))), ((f 7), .inl (cz 0, 20, .inl (fun _ => 0))), ((f 8), .inl (cz 0, 20, .inl (fun _ => 0))), ((f 9), .inl (cz 0, 20, .inl (fun _ => 0)))]
set_option maxRecDepth 100000 in
set_option maxHeartbeats 4000000 in
theorem ct_st {l : Launch} {D : va_G} {cz : Nat → ClassId} (h0 sz : Nat)  : CtN (Nat → Nat) l yX6_init cX6_init 1 ({ frames := 1, cells := 10, slots := 114, locals := 12 } : Room) D cz sz [(h0, .inr (6, [.null, .null, .null, .null, .null, .null, .null, .null, .null, .null, .int 0, .int 0, .int 0, .int 0, .int 0, .int 0, .int 0, .int 0]))] noNW [.ref h0] (fun f => stW cz h0  f) 10 114 := by
  refine n_entry pn_X6_init rfl (Nat.le_of_ble_eq_true rfl) ?_
  intro p e s m args below meth c ls A hAe X hr hlk hin hP hD hA hl hS hN
  have hx := X.1
  have hb := X.2.1
  have hl : lv_has ls 1 [(0, .ref h0)] := hl
  refine lv_aload_n hx hb dX6_init_0 rfl (lv_at hl 0 rfl) ?_
  refine n_obj X gm_155 gm_132 gm_oc hl.1 dX6_init_1 (Nat.le_of_ble_eq_true rfl) (Nat.le_of_ble_eq_true rfl) ?_
  refine lv_aload_n hx hb dX6_init_4 rfl (lv_at hl 0 rfl) ?_
  refine lv_bipush (v := 6) hx hb dX6_init_5 (by decide) ?_
  refine n_newa (ty := .int) (N' := 6) (a0 := (6, .inl (fun _ => 0))) X hP hD hS hA 0 rfl rfl gm_258 (fun _ => rfl) (by decide) (by decide) (by decide) (Nat.le_of_ble_eq_true rfl) (Nat.le_of_ble_eq_true rfl) dX6_init_7 (fun q1 H hP hD hS => ?_)
  have hP : va_P D vwCl ([(h0, .inr (6, [.null, .null, .null, .null, .null, .null, .null, .null, .null, .null, .int 0, .int 0, .int 0, .int 0, .int 0, .int 0, .int 0, .int 0])), (q1, .inl (cz 0, 6, .inl (fun _ => 0)))]) H := hP
  have hD : va_D A ([(h0, .inr (6, [.null, .null, .null, .null, .null, .null, .null, .null, .null, .null, .int 0, .int 0, .int 0, .int 0, .int 0, .int 0, .int 0, .int 0])), (q1, .inl (cz 0, 6, .inl (fun _ => 0)))]) := hD
  refine n_putF X hin hP hD hS 0 0 qk_6_9 rfl rfl rfl (Nat.le_of_ble_eq_true rfl) dX6_init_9 (fun H locs hP hD hS => ?_)
  have hP : va_P D vwCl ([(h0, .inr (6, [.ref q1, .null, .null, .null, .null, .null, .null, .null, .null, .null, .int 0, .int 0, .int 0, .int 0, .int 0, .int 0, .int 0, .int 0])), (q1, .inl (cz 0, 6, .inl (fun _ => 0)))]) H := hP
  have hD : va_D A ([(h0, .inr (6, [.ref q1, .null, .null, .null, .null, .null, .null, .null, .null, .null, .int 0, .int 0, .int 0, .int 0, .int 0, .int 0, .int 0, .int 0])), (q1, .inl (cz 0, 6, .inl (fun _ => 0)))]) := hD
  refine lv_aload_n hx hb dX6_init_12 rfl (lv_at hl 0 rfl) ?_
  refine lv_bipush (v := 6) hx hb dX6_init_13 (by decide) ?_
  refine n_newa (ty := .int) (N' := 6) (a0 := (6, .inl (fun _ => 0))) X hP hD hS hA 0 rfl rfl gm_258 (fun _ => rfl) (by decide) (by decide) (by decide) (Nat.le_of_ble_eq_true rfl) (Nat.le_of_ble_eq_true rfl) dX6_init_15 (fun q2 H hP hD hS => ?_)
  have hP : va_P D vwCl ([(h0, .inr (6, [.ref q1, .null, .null, .null, .null, .null, .null, .null, .null, .null, .int 0, .int 0, .int 0, .int 0, .int 0, .int 0, .int 0, .int 0])), (q1, .inl (cz 0, 6, .inl (fun _ => 0))), (q2, .inl (cz 0, 6, .inl (fun _ => 0)))]) H := hP
  have hD : va_D A ([(h0, .inr (6, [.ref q1, .null, .null, .null, .null, .null, .null, .null, .null, .null, .int 0, .int 0, .int 0, .int 0, .int 0, .int 0, .int 0, .int 0])), (q1, .inl (cz 0, 6, .inl (fun _ => 0))), (q2, .inl (cz 0, 6, .inl (fun _ => 0)))]) := hD
  refine n_putF X hin hP hD hS 0 1 qk_6_15 rfl rfl rfl (Nat.le_of_ble_eq_true rfl) dX6_init_17 (fun H locs hP hD hS => ?_)
  have hP : va_P D vwCl ([(h0, .inr (6, [.ref q1, .ref q2, .null, .null, .null, .null, .null, .null, .null, .null, .int 0, .int 0, .int 0, .int 0, .int 0, .int 0, .int 0, .int 0])), (q1, .inl (cz 0, 6, .inl (fun _ => 0))), (q2, .inl (cz 0, 6, .inl (fun _ => 0)))]) H := hP
  have hD : va_D A ([(h0, .inr (6, [.ref q1, .ref q2, .null, .null, .null, .null, .null, .null, .null, .null, .int 0, .int 0, .int 0, .int 0, .int 0, .int 0, .int 0, .int 0])), (q1, .inl (cz 0, 6, .inl (fun _ => 0))), (q2, .inl (cz 0, 6, .inl (fun _ => 0)))]) := hD
  refine lv_aload_n hx hb dX6_init_20 rfl (lv_at hl 0 rfl) ?_
  refine lv_bipush (v := 6) hx hb dX6_init_21 (by decide) ?_
  refine n_newa (ty := .int) (N' := 6) (a0 := (6, .inl (fun _ => 0))) X hP hD hS hA 0 rfl rfl gm_258 (fun _ => rfl) (by decide) (by decide) (by decide) (Nat.le_of_ble_eq_true rfl) (Nat.le_of_ble_eq_true rfl) dX6_init_23 (fun q3 H hP hD hS => ?_)
  have hP : va_P D vwCl ([(h0, .inr (6, [.ref q1, .ref q2, .null, .null, .null, .null, .null, .null, .null, .null, .int 0, .int 0, .int 0, .int 0, .int 0, .int 0, .int 0, .int 0])), (q1, .inl (cz 0, 6, .inl (fun _ => 0))), (q2, .inl (cz 0, 6, .inl (fun _ => 0))), (q3, .inl (cz 0, 6, .inl (fun _ => 0)))]) H := hP
  have hD : va_D A ([(h0, .inr (6, [.ref q1, .ref q2, .null, .null, .null, .null, .null, .null, .null, .null, .int 0, .int 0, .int 0, .int 0, .int 0, .int 0, .int 0, .int 0])), (q1, .inl (cz 0, 6, .inl (fun _ => 0))), (q2, .inl (cz 0, 6, .inl (fun _ => 0))), (q3, .inl (cz 0, 6, .inl (fun _ => 0)))]) := hD
  refine n_putF X hin hP hD hS 0 2 qk_6_18 rfl rfl rfl (Nat.le_of_ble_eq_true rfl) dX6_init_25 (fun H locs hP hD hS => ?_)
  have hP : va_P D vwCl ([(h0, .inr (6, [.ref q1, .ref q2, .ref q3, .null, .null, .null, .null, .null, .null, .null, .int 0, .int 0, .int 0, .int 0, .int 0, .int 0, .int 0, .int 0])), (q1, .inl (cz 0, 6, .inl (fun _ => 0))), (q2, .inl (cz 0, 6, .inl (fun _ => 0))), (q3, .inl (cz 0, 6, .inl (fun _ => 0)))]) H := hP
  have hD : va_D A ([(h0, .inr (6, [.ref q1, .ref q2, .ref q3, .null, .null, .null, .null, .null, .null, .null, .int 0, .int 0, .int 0, .int 0, .int 0, .int 0, .int 0, .int 0])), (q1, .inl (cz 0, 6, .inl (fun _ => 0))), (q2, .inl (cz 0, 6, .inl (fun _ => 0))), (q3, .inl (cz 0, 6, .inl (fun _ => 0)))]) := hD
  refine lv_aload_n hx hb dX6_init_28 rfl (lv_at hl 0 rfl) ?_
  refine lv_bipush (v := 10) hx hb dX6_init_29 (by decide) ?_
  refine n_newa (ty := .int) (N' := 10) (a0 := (10, .inl (fun _ => 0))) X hP hD hS hA 0 rfl rfl gm_258 (fun _ => rfl) (by decide) (by decide) (by decide) (Nat.le_of_ble_eq_true rfl) (Nat.le_of_ble_eq_true rfl) dX6_init_31 (fun q4 H hP hD hS => ?_)
  have hP : va_P D vwCl ([(h0, .inr (6, [.ref q1, .ref q2, .ref q3, .null, .null, .null, .null, .null, .null, .null, .int 0, .int 0, .int 0, .int 0, .int 0, .int 0, .int 0, .int 0])), (q1, .inl (cz 0, 6, .inl (fun _ => 0))), (q2, .inl (cz 0, 6, .inl (fun _ => 0))), (q3, .inl (cz 0, 6, .inl (fun _ => 0))), (q4, .inl (cz 0, 10, .inl (fun _ => 0)))]) H := hP
  have hD : va_D A ([(h0, .inr (6, [.ref q1, .ref q2, .ref q3, .null, .null, .null, .null, .null, .null, .null, .int 0, .int 0, .int 0, .int 0, .int 0, .int 0, .int 0, .int 0])), (q1, .inl (cz 0, 6, .inl (fun _ => 0))), (q2, .inl (cz 0, 6, .inl (fun _ => 0))), (q3, .inl (cz 0, 6, .inl (fun _ => 0))), (q4, .inl (cz 0, 10, .inl (fun _ => 0)))]) := hD
  refine n_putF X hin hP hD hS 0 3 qk_6_21 rfl rfl rfl (Nat.le_of_ble_eq_true rfl) dX6_init_33 (fun H locs hP hD hS => ?_)
  have hP : va_P D vwCl ([(h0, .inr (6, [.ref q1, .ref q2, .ref q3, .ref q4, .null, .null, .null, .null, .null, .null, .int 0, .int 0, .int 0, .int 0, .int 0, .int 0, .int 0, .int 0])), (q1, .inl (cz 0, 6, .inl (fun _ => 0))), (q2, .inl (cz 0, 6, .inl (fun _ => 0))), (q3, .inl (cz 0, 6, .inl (fun _ => 0))), (q4, .inl (cz 0, 10, .inl (fun _ => 0)))]) H := hP
  have hD : va_D A ([(h0, .inr (6, [.ref q1, .ref q2, .ref q3, .ref q4, .null, .null, .null, .null, .null, .null, .int 0, .int 0, .int 0, .int 0, .int 0, .int 0, .int 0, .int 0])), (q1, .inl (cz 0, 6, .inl (fun _ => 0))), (q2, .inl (cz 0, 6, .inl (fun _ => 0))), (q3, .inl (cz 0, 6, .inl (fun _ => 0))), (q4, .inl (cz 0, 10, .inl (fun _ => 0)))]) := hD
  refine lv_aload_n hx hb dX6_init_36 rfl (lv_at hl 0 rfl) ?_
  refine lv_bipush (v := 10) hx hb dX6_init_37 (by decide) ?_
  refine n_newa (ty := .int) (N' := 10) (a0 := (10, .inl (fun _ => 0))) X hP hD hS hA 0 rfl rfl gm_258 (fun _ => rfl) (by decide) (by decide) (by decide) (Nat.le_of_ble_eq_true rfl) (Nat.le_of_ble_eq_true rfl) dX6_init_39 (fun q5 H hP hD hS => ?_)
  have hP : va_P D vwCl ([(h0, .inr (6, [.ref q1, .ref q2, .ref q3, .ref q4, .null, .null, .null, .null, .null, .null, .int 0, .int 0, .int 0, .int 0, .int 0, .int 0, .int 0, .int 0])), (q1, .inl (cz 0, 6, .inl (fun _ => 0))), (q2, .inl (cz 0, 6, .inl (fun _ => 0))), (q3, .inl (cz 0, 6, .inl (fun _ => 0))), (q4, .inl (cz 0, 10, .inl (fun _ => 0))), (q5, .inl (cz 0, 10, .inl (fun _ => 0)))]) H := hP
  have hD : va_D A ([(h0, .inr (6, [.ref q1, .ref q2, .ref q3, .ref q4, .null, .null, .null, .null, .null, .null, .int 0, .int 0, .int 0, .int 0, .int 0, .int 0, .int 0, .int 0])), (q1, .inl (cz 0, 6, .inl (fun _ => 0))), (q2, .inl (cz 0, 6, .inl (fun _ => 0))), (q3, .inl (cz 0, 6, .inl (fun _ => 0))), (q4, .inl (cz 0, 10, .inl (fun _ => 0))), (q5, .inl (cz 0, 10, .inl (fun _ => 0)))]) := hD
  refine n_putF X hin hP hD hS 0 4 qk_6_24 rfl rfl rfl (Nat.le_of_ble_eq_true rfl) dX6_init_41 (fun H locs hP hD hS => ?_)
  have hP : va_P D vwCl ([(h0, .inr (6, [.ref q1, .ref q2, .ref q3, .ref q4, .ref q5, .null, .null, .null, .null, .null, .int 0, .int 0, .int 0, .int 0, .int 0, .int 0, .int 0, .int 0])), (q1, .inl (cz 0, 6, .inl (fun _ => 0))), (q2, .inl (cz 0, 6, .inl (fun _ => 0))), (q3, .inl (cz 0, 6, .inl (fun _ => 0))), (q4, .inl (cz 0, 10, .inl (fun _ => 0))), (q5, .inl (cz 0, 10, .inl (fun _ => 0)))]) H := hP
  have hD : va_D A ([(h0, .inr (6, [.ref q1, .ref q2, .ref q3, .ref q4, .ref q5, .null, .null, .null, .null, .null, .int 0, .int 0, .int 0, .int 0, .int 0, .int 0, .int 0, .int 0])), (q1, .inl (cz 0, 6, .inl (fun _ => 0))), (q2, .inl (cz 0, 6, .inl (fun _ => 0))), (q3, .inl (cz 0, 6, .inl (fun _ => 0))), (q4, .inl (cz 0, 10, .inl (fun _ => 0))), (q5, .inl (cz 0, 10, .inl (fun _ => 0)))]) := hD
  refine lv_aload_n hx hb dX6_init_44 rfl (lv_at hl 0 rfl) ?_
  refine lv_bipush (v := 8) hx hb dX6_init_45 (by decide) ?_
  refine n_newa (ty := .int) (N' := 8) (a0 := (8, .inl (fun _ => 0))) X hP hD hS hA 0 rfl rfl gm_258 (fun _ => rfl) (by decide) (by decide) (by decide) (Nat.le_of_ble_eq_true rfl) (Nat.le_of_ble_eq_true rfl) dX6_init_47 (fun q6 H hP hD hS => ?_)
  have hP : va_P D vwCl ([(h0, .inr (6, [.ref q1, .ref q2, .ref q3, .ref q4, .ref q5, .null, .null, .null, .null, .null, .int 0, .int 0, .int 0, .int 0, .int 0, .int 0, .int 0, .int 0])), (q1, .inl (cz 0, 6, .inl (fun _ => 0))), (q2, .inl (cz 0, 6, .inl (fun _ => 0))), (q3, .inl (cz 0, 6, .inl (fun _ => 0))), (q4, .inl (cz 0, 10, .inl (fun _ => 0))), (q5, .inl (cz 0, 10, .inl (fun _ => 0))), (q6, .inl (cz 0, 8, .inl (fun _ => 0)))]) H := hP
  have hD : va_D A ([(h0, .inr (6, [.ref q1, .ref q2, .ref q3, .ref q4, .ref q5, .null, .null, .null, .null, .null, .int 0, .int 0, .int 0, .int 0, .int 0, .int 0, .int 0, .int 0])), (q1, .inl (cz 0, 6, .inl (fun _ => 0))), (q2, .inl (cz 0, 6, .inl (fun _ => 0))), (q3, .inl (cz 0, 6, .inl (fun _ => 0))), (q4, .inl (cz 0, 10, .inl (fun _ => 0))), (q5, .inl (cz 0, 10, .inl (fun _ => 0))), (q6, .inl (cz 0, 8, .inl (fun _ => 0)))]) := hD
  refine n_putF X hin hP hD hS 0 5 qk_6_27 rfl rfl rfl (Nat.le_of_ble_eq_true rfl) dX6_init_49 (fun H locs hP hD hS => ?_)
  have hP : va_P D vwCl ([(h0, .inr (6, [.ref q1, .ref q2, .ref q3, .ref q4, .ref q5, .ref q6, .null, .null, .null, .null, .int 0, .int 0, .int 0, .int 0, .int 0, .int 0, .int 0, .int 0])), (q1, .inl (cz 0, 6, .inl (fun _ => 0))), (q2, .inl (cz 0, 6, .inl (fun _ => 0))), (q3, .inl (cz 0, 6, .inl (fun _ => 0))), (q4, .inl (cz 0, 10, .inl (fun _ => 0))), (q5, .inl (cz 0, 10, .inl (fun _ => 0))), (q6, .inl (cz 0, 8, .inl (fun _ => 0)))]) H := hP
  have hD : va_D A ([(h0, .inr (6, [.ref q1, .ref q2, .ref q3, .ref q4, .ref q5, .ref q6, .null, .null, .null, .null, .int 0, .int 0, .int 0, .int 0, .int 0, .int 0, .int 0, .int 0])), (q1, .inl (cz 0, 6, .inl (fun _ => 0))), (q2, .inl (cz 0, 6, .inl (fun _ => 0))), (q3, .inl (cz 0, 6, .inl (fun _ => 0))), (q4, .inl (cz 0, 10, .inl (fun _ => 0))), (q5, .inl (cz 0, 10, .inl (fun _ => 0))), (q6, .inl (cz 0, 8, .inl (fun _ => 0)))]) := hD
  refine lv_aload_n hx hb dX6_init_52 rfl (lv_at hl 0 rfl) ?_
  refine lv_bipush (v := 8) hx hb dX6_init_53 (by decide) ?_
  refine n_newa (ty := .int) (N' := 8) (a0 := (8, .inl (fun _ => 0))) X hP hD hS hA 0 rfl rfl gm_258 (fun _ => rfl) (by decide) (by decide) (by decide) (Nat.le_of_ble_eq_true rfl) (Nat.le_of_ble_eq_true rfl) dX6_init_55 (fun q7 H hP hD hS => ?_)
  have hP : va_P D vwCl ([(h0, .inr (6, [.ref q1, .ref q2, .ref q3, .ref q4, .ref q5, .ref q6, .null, .null, .null, .null, .int 0, .int 0, .int 0, .int 0, .int 0, .int 0, .int 0, .int 0])), (q1, .inl (cz 0, 6, .inl (fun _ => 0))), (q2, .inl (cz 0, 6, .inl (fun _ => 0))), (q3, .inl (cz 0, 6, .inl (fun _ => 0))), (q4, .inl (cz 0, 10, .inl (fun _ => 0))), (q5, .inl (cz 0, 10, .inl (fun _ => 0))), (q6, .inl (cz 0, 8, .inl (fun _ => 0))), (q7, .inl (cz 0, 8, .inl (fun _ => 0)))]) H := hP
  have hD : va_D A ([(h0, .inr (6, [.ref q1, .ref q2, .ref q3, .ref q4, .ref q5, .ref q6, .null, .null, .null, .null, .int 0, .int 0, .int 0, .int 0, .int 0, .int 0, .int 0, .int 0])), (q1, .inl (cz 0, 6, .inl (fun _ => 0))), (q2, .inl (cz 0, 6, .inl (fun _ => 0))), (q3, .inl (cz 0, 6, .inl (fun _ => 0))), (q4, .inl (cz 0, 10, .inl (fun _ => 0))), (q5, .inl (cz 0, 10, .inl (fun _ => 0))), (q6, .inl (cz 0, 8, .inl (fun _ => 0))), (q7, .inl (cz 0, 8, .inl (fun _ => 0)))]) := hD
  refine n_putF X hin hP hD hS 0 6 qk_6_30 rfl rfl rfl (Nat.le_of_ble_eq_true rfl) dX6_init_57 (fun H locs hP hD hS => ?_)
  have hP : va_P D vwCl ([(h0, .inr (6, [.ref q1, .ref q2, .ref q3, .ref q4, .ref q5, .ref q6, .ref q7, .null, .null, .null, .int 0, .int 0, .int 0, .int 0, .int 0, .int 0, .int 0, .int 0])), (q1, .inl (cz 0, 6, .inl (fun _ => 0))), (q2, .inl (cz 0, 6, .inl (fun _ => 0))), (q3, .inl (cz 0, 6, .inl (fun _ => 0))), (q4, .inl (cz 0, 10, .inl (fun _ => 0))), (q5, .inl (cz 0, 10, .inl (fun _ => 0))), (q6, .inl (cz 0, 8, .inl (fun _ => 0))), (q7, .inl (cz 0, 8, .inl (fun _ => 0)))]) H := hP
  have hD : va_D A ([(h0, .inr (6, [.ref q1, .ref q2, .ref q3, .ref q4, .ref q5, .ref q6, .ref q7, .null, .null, .null, .int 0, .int 0, .int 0, .int 0, .int 0, .int 0, .int 0, .int 0])), (q1, .inl (cz 0, 6, .inl (fun _ => 0))), (q2, .inl (cz 0, 6, .inl (fun _ => 0))), (q3, .inl (cz 0, 6, .inl (fun _ => 0))), (q4, .inl (cz 0, 10, .inl (fun _ => 0))), (q5, .inl (cz 0, 10, .inl (fun _ => 0))), (q6, .inl (cz 0, 8, .inl (fun _ => 0))), (q7, .inl (cz 0, 8, .inl (fun _ => 0)))]) := hD
  refine lv_aload_n hx hb dX6_init_60 rfl (lv_at hl 0 rfl) ?_
  refine lv_bipush (v := 20) hx hb dX6_init_61 (by decide) ?_
  refine n_newa (ty := .int) (N' := 20) (a0 := (20, .inl (fun _ => 0))) X hP hD hS hA 0 rfl rfl gm_258 (fun _ => rfl) (by decide) (by decide) (by decide) (Nat.le_of_ble_eq_true rfl) (Nat.le_of_ble_eq_true rfl) dX6_init_63 (fun q8 H hP hD hS => ?_)
  have hP : va_P D vwCl ([(h0, .inr (6, [.ref q1, .ref q2, .ref q3, .ref q4, .ref q5, .ref q6, .ref q7, .null, .null, .null, .int 0, .int 0, .int 0, .int 0, .int 0, .int 0, .int 0, .int 0])), (q1, .inl (cz 0, 6, .inl (fun _ => 0))), (q2, .inl (cz 0, 6, .inl (fun _ => 0))), (q3, .inl (cz 0, 6, .inl (fun _ => 0))), (q4, .inl (cz 0, 10, .inl (fun _ => 0))), (q5, .inl (cz 0, 10, .inl (fun _ => 0))), (q6, .inl (cz 0, 8, .inl (fun _ => 0))), (q7, .inl (cz 0, 8, .inl (fun _ => 0))), (q8, .inl (cz 0, 20, .inl (fun _ => 0)))]) H := hP
  have hD : va_D A ([(h0, .inr (6, [.ref q1, .ref q2, .ref q3, .ref q4, .ref q5, .ref q6, .ref q7, .null, .null, .null, .int 0, .int 0, .int 0, .int 0, .int 0, .int 0, .int 0, .int 0])), (q1, .inl (cz 0, 6, .inl (fun _ => 0))), (q2, .inl (cz 0, 6, .inl (fun _ => 0))), (q3, .inl (cz 0, 6, .inl (fun _ => 0))), (q4, .inl (cz 0, 10, .inl (fun _ => 0))), (q5, .inl (cz 0, 10, .inl (fun _ => 0))), (q6, .inl (cz 0, 8, .inl (fun _ => 0))), (q7, .inl (cz 0, 8, .inl (fun _ => 0))), (q8, .inl (cz 0, 20, .inl (fun _ => 0)))]) := hD
  refine n_putF X hin hP hD hS 0 7 qk_6_33 rfl rfl rfl (Nat.le_of_ble_eq_true rfl) dX6_init_65 (fun H locs hP hD hS => ?_)
  have hP : va_P D vwCl ([(h0, .inr (6, [.ref q1, .ref q2, .ref q3, .ref q4, .ref q5, .ref q6, .ref q7, .ref q8, .null, .null, .int 0, .int 0, .int 0, .int 0, .int 0, .int 0, .int 0, .int 0])), (q1, .inl (cz 0, 6, .inl (fun _ => 0))), (q2, .inl (cz 0, 6, .inl (fun _ => 0))), (q3, .inl (cz 0, 6, .inl (fun _ => 0))), (q4, .inl (cz 0, 10, .inl (fun _ => 0))), (q5, .inl (cz 0, 10, .inl (fun _ => 0))), (q6, .inl (cz 0, 8, .inl (fun _ => 0))), (q7, .inl (cz 0, 8, .inl (fun _ => 0))), (q8, .inl (cz 0, 20, .inl (fun _ => 0)))]) H := hP
  have hD : va_D A ([(h0, .inr (6, [.ref q1, .ref q2, .ref q3, .ref q4, .ref q5, .ref q6, .ref q7, .ref q8, .null, .null, .int 0, .int 0, .int 0, .int 0, .int 0, .int 0, .int 0, .int 0])), (q1, .inl (cz 0, 6, .inl (fun _ => 0))), (q2, .inl (cz 0, 6, .inl (fun _ => 0))), (q3, .inl (cz 0, 6, .inl (fun _ => 0))), (q4, .inl (cz 0, 10, .inl (fun _ => 0))), (q5, .inl (cz 0, 10, .inl (fun _ => 0))), (q6, .inl (cz 0, 8, .inl (fun _ => 0))), (q7, .inl (cz 0, 8, .inl (fun _ => 0))), (q8, .inl (cz 0, 20, .inl (fun _ => 0)))]) := hD
  refine lv_aload_n hx hb dX6_init_68 rfl (lv_at hl 0 rfl) ?_
  refine lv_bipush (v := 20) hx hb dX6_init_69 (by decide) ?_
  refine n_newa (ty := .int) (N' := 20) (a0 := (20, .inl (fun _ => 0))) X hP hD hS hA 0 rfl rfl gm_258 (fun _ => rfl) (by decide) (by decide) (by decide) (Nat.le_of_ble_eq_true rfl) (Nat.le_of_ble_eq_true rfl) dX6_init_71 (fun q9 H hP hD hS => ?_)
  have hP : va_P D vwCl ([(h0, .inr (6, [.ref q1, .ref q2, .ref q3, .ref q4, .ref q5, .ref q6, .ref q7, .ref q8, .null, .null, .int 0, .int 0, .int 0, .int 0, .int 0, .int 0, .int 0, .int 0])), (q1, .inl (cz 0, 6, .inl (fun _ => 0))), (q2, .inl (cz 0, 6, .inl (fun _ => 0))), (q3, .inl (cz 0, 6, .inl (fun _ => 0))), (q4, .inl (cz 0, 10, .inl (fun _ => 0))), (q5, .inl (cz 0, 10, .inl (fun _ => 0))), (q6, .inl (cz 0, 8, .inl (fun _ => 0))), (q7, .inl (cz 0, 8, .inl (fun _ => 0))), (q8, .inl (cz 0, 20, .inl (fun _ => 0))), (q9, .inl (cz 0, 20, .inl (fun _ => 0)))]) H := hP
  have hD : va_D A ([(h0, .inr (6, [.ref q1, .ref q2, .ref q3, .ref q4, .ref q5, .ref q6, .ref q7, .ref q8, .null, .null, .int 0, .int 0, .int 0, .int 0, .int 0, .int 0, .int 0, .int 0])), (q1, .inl (cz 0, 6, .inl (fun _ => 0))), (q2, .inl (cz 0, 6, .inl (fun _ => 0))), (q3, .inl (cz 0, 6, .inl (fun _ => 0))), (q4, .inl (cz 0, 10, .inl (fun _ => 0))), (q5, .inl (cz 0, 10, .inl (fun _ => 0))), (q6, .inl (cz 0, 8, .inl (fun _ => 0))), (q7, .inl (cz 0, 8, .inl (fun _ => 0))), (q8, .inl (cz 0, 20, .inl (fun _ => 0))), (q9, .inl (cz 0, 20, .inl (fun _ => 0)))]) := hD
  refine n_putF X hin hP hD hS 0 8 qk_6_36 rfl rfl rfl (Nat.le_of_ble_eq_true rfl) dX6_init_73 (fun H locs hP hD hS => ?_)
  have hP : va_P D vwCl ([(h0, .inr (6, [.ref q1, .ref q2, .ref q3, .ref q4, .ref q5, .ref q6, .ref q7, .ref q8, .ref q9, .null, .int 0, .int 0, .int 0, .int 0, .int 0, .int 0, .int 0, .int 0])), (q1, .inl (cz 0, 6, .inl (fun _ => 0))), (q2, .inl (cz 0, 6, .inl (fun _ => 0))), (q3, .inl (cz 0, 6, .inl (fun _ => 0))), (q4, .inl (cz 0, 10, .inl (fun _ => 0))), (q5, .inl (cz 0, 10, .inl (fun _ => 0))), (q6, .inl (cz 0, 8, .inl (fun _ => 0))), (q7, .inl (cz 0, 8, .inl (fun _ => 0))), (q8, .inl (cz 0, 20, .inl (fun _ => 0))), (q9, .inl (cz 0, 20, .inl (fun _ => 0)))]) H := hP
  have hD : va_D A ([(h0, .inr (6, [.ref q1, .ref q2, .ref q3, .ref q4, .ref q5, .ref q6, .ref q7, .ref q8, .ref q9, .null, .int 0, .int 0, .int 0, .int 0, .int 0, .int 0, .int 0, .int 0])), (q1, .inl (cz 0, 6, .inl (fun _ => 0))), (q2, .inl (cz 0, 6, .inl (fun _ => 0))), (q3, .inl (cz 0, 6, .inl (fun _ => 0))), (q4, .inl (cz 0, 10, .inl (fun _ => 0))), (q5, .inl (cz 0, 10, .inl (fun _ => 0))), (q6, .inl (cz 0, 8, .inl (fun _ => 0))), (q7, .inl (cz 0, 8, .inl (fun _ => 0))), (q8, .inl (cz 0, 20, .inl (fun _ => 0))), (q9, .inl (cz 0, 20, .inl (fun _ => 0)))]) := hD
  refine lv_aload_n hx hb dX6_init_76 rfl (lv_at hl 0 rfl) ?_
  refine lv_bipush (v := 20) hx hb dX6_init_77 (by decide) ?_
  refine n_newa (ty := .int) (N' := 20) (a0 := (20, .inl (fun _ => 0))) X hP hD hS hA 0 rfl rfl gm_258 (fun _ => rfl) (by decide) (by decide) (by decide) (Nat.le_of_ble_eq_true rfl) (Nat.le_of_ble_eq_true rfl) dX6_init_79 (fun q10 H hP hD hS => ?_)
  have hP : va_P D vwCl ([(h0, .inr (6, [.ref q1, .ref q2, .ref q3, .ref q4, .ref q5, .ref q6, .ref q7, .ref q8, .ref q9, .null, .int 0, .int 0, .int 0, .int 0, .int 0, .int 0, .int 0, .int 0])), (q1, .inl (cz 0, 6, .inl (fun _ => 0))), (q2, .inl (cz 0, 6, .inl (fun _ => 0))), (q3, .inl (cz 0, 6, .inl (fun _ => 0))), (q4, .inl (cz 0, 10, .inl (fun _ => 0))), (q5, .inl (cz 0, 10, .inl (fun _ => 0))), (q6, .inl (cz 0, 8, .inl (fun _ => 0))), (q7, .inl (cz 0, 8, .inl (fun _ => 0))), (q8, .inl (cz 0, 20, .inl (fun _ => 0))), (q9, .inl (cz 0, 20, .inl (fun _ => 0))), (q10, .inl (cz 0, 20, .inl (fun _ => 0)))]) H := hP
  have hD : va_D A ([(h0, .inr (6, [.ref q1, .ref q2, .ref q3, .ref q4, .ref q5, .ref q6, .ref q7, .ref q8, .ref q9, .null, .int 0, .int 0, .int 0, .int 0, .int 0, .int 0, .int 0, .int 0])), (q1, .inl (cz 0, 6, .inl (fun _ => 0))), (q2, .inl (cz 0, 6, .inl (fun _ => 0))), (q3, .inl (cz 0, 6, .inl (fun _ => 0))), (q4, .inl (cz 0, 10, .inl (fun _ => 0))), (q5, .inl (cz 0, 10, .inl (fun _ => 0))), (q6, .inl (cz 0, 8, .inl (fun _ => 0))), (q7, .inl (cz 0, 8, .inl (fun _ => 0))), (q8, .inl (cz 0, 20, .inl (fun _ => 0))), (q9, .inl (cz 0, 20, .inl (fun _ => 0))), (q10, .inl (cz 0, 20, .inl (fun _ => 0)))]) := hD
  refine n_putF X hin hP hD hS 0 9 qk_6_39 rfl rfl rfl (Nat.le_of_ble_eq_true rfl) dX6_init_81 (fun H locs hP hD hS => ?_)
  have hP : va_P D vwCl ([(h0, .inr (6, [.ref q1, .ref q2, .ref q3, .ref q4, .ref q5, .ref q6, .ref q7, .ref q8, .ref q9, .ref q10, .int 0, .int 0, .int 0, .int 0, .int 0, .int 0, .int 0, .int 0])), (q1, .inl (cz 0, 6, .inl (fun _ => 0))), (q2, .inl (cz 0, 6, .inl (fun _ => 0))), (q3, .inl (cz 0, 6, .inl (fun _ => 0))), (q4, .inl (cz 0, 10, .inl (fun _ => 0))), (q5, .inl (cz 0, 10, .inl (fun _ => 0))), (q6, .inl (cz 0, 8, .inl (fun _ => 0))), (q7, .inl (cz 0, 8, .inl (fun _ => 0))), (q8, .inl (cz 0, 20, .inl (fun _ => 0))), (q9, .inl (cz 0, 20, .inl (fun _ => 0))), (q10, .inl (cz 0, 20, .inl (fun _ => 0)))]) H := hP
  have hD : va_D A ([(h0, .inr (6, [.ref q1, .ref q2, .ref q3, .ref q4, .ref q5, .ref q6, .ref q7, .ref q8, .ref q9, .ref q10, .int 0, .int 0, .int 0, .int 0, .int 0, .int 0, .int 0, .int 0])), (q1, .inl (cz 0, 6, .inl (fun _ => 0))), (q2, .inl (cz 0, 6, .inl (fun _ => 0))), (q3, .inl (cz 0, 6, .inl (fun _ => 0))), (q4, .inl (cz 0, 10, .inl (fun _ => 0))), (q5, .inl (cz 0, 10, .inl (fun _ => 0))), (q6, .inl (cz 0, 8, .inl (fun _ => 0))), (q7, .inl (cz 0, 8, .inl (fun _ => 0))), (q8, .inl (cz 0, 20, .inl (fun _ => 0))), (q9, .inl (cz 0, 20, .inl (fun _ => 0))), (q10, .inl (cz 0, 20, .inl (fun _ => 0)))]) := hD
  subst hAe
  exact n_ret (w := fun f => stW cz h0  f) X hr hlk (fun k => ([q1, q2, q3, q4, q5, q6, q7, q8, q9, q10] : List Nat).getD k 0) hP hD hS (Nat.le_of_ble_eq_true rfl) (Nat.le_of_ble_eq_true rfl) dX6_init_84

def slW (cz : Nat → ClassId) (h0 : Nat)  (f : Nat → Nat) : va_W := [(h0, .inr (5, [.ref (f 0), .ref (f 1), .ref (f 2)])), ((f 0), .inl (cz 0, 4, .inl (upd (upd (upd (upd (fun _ => 0) (Int32.toNatClampNeg 0) (-1)) (Int32.toNatClampNeg 1) (-1)) (Int32.toNatClampNeg 2) (-1)) (Int32.toNatClampNeg 3) (-1)))), ((f 1), .inl (cz 0, 4, .inl (fun _ => 0))), ((f 2), .inl (cz 3, 240, .inr (.inl (fun _ => 0))))]
set_option maxRecDepth 100000 in
set_option maxHeartbeats 4000000 in
theorem ct_sl {l : Launch} {D : va_G} {cz : Nat → ClassId} (h0 sz : Nat)  : CtN (Nat → Nat) l yX5_init cX5_init 1 ({ frames := 1, cells := 3, slots := 248, locals := 12 } : Room) D cz sz [(h0, .inr (5, [.null, .null, .null]))] noNW [.ref h0] (fun f => slW cz h0  f) 3 248 := by
  refine n_entry pn_X5_init rfl (Nat.le_of_ble_eq_true rfl) ?_
  intro p e s m args below meth c ls A hAe X hr hlk hin hP hD hA hl hS hN
  have hx := X.1
  have hb := X.2.1
  have hl : lv_has ls 1 [(0, .ref h0)] := hl
  refine lv_aload_n hx hb dX5_init_0 rfl (lv_at hl 0 rfl) ?_
  refine n_obj X gm_298 gm_132 gm_oc hl.1 dX5_init_1 (Nat.le_of_ble_eq_true rfl) (Nat.le_of_ble_eq_true rfl) ?_
  refine lv_aload_n hx hb dX5_init_4 rfl (lv_at hl 0 rfl) ?_
  refine lv_iconst (v := 4) hx hb dX5_init_5 (by decide) ?_
  refine n_newa (ty := .int) (N' := 4) (a0 := (4, .inl (fun _ => 0))) X hP hD hS hA 0 rfl rfl gm_258 (fun _ => rfl) (by decide) (by decide) (by decide) (Nat.le_of_ble_eq_true rfl) (Nat.le_of_ble_eq_true rfl) dX5_init_6 (fun q1 H hP hD hS => ?_)
  have hP : va_P D vwCl ([(h0, .inr (5, [.null, .null, .null])), (q1, .inl (cz 0, 4, .inl (fun _ => 0)))]) H := hP
  have hD : va_D A ([(h0, .inr (5, [.null, .null, .null])), (q1, .inl (cz 0, 4, .inl (fun _ => 0)))]) := hD
  refine lv_dup hx hb dX5_init_8 rfl ?_
  refine lv_iconst (v := 0) hx hb dX5_init_9 (by decide) ?_
  refine lv_iconst (v := (-1)) hx hb dX5_init_10 (by decide) ?_
  refine va_iast hx hb X.2.2.2.2.2 hP hD hS 1 0 (cA := cz 0) (n := 4) (f := (fun _ => 0)) rfl rfl (v_in (rg_k (by decide) : rg 0 0 0) (by decide)) dX5_init_11 (fun H locs hP hD hS => ?_)
  have hP : va_P D vwCl ([(h0, .inr (5, [.null, .null, .null])), (q1, .inl (cz 0, 4, .inl (upd (fun _ => 0) (Int32.toNatClampNeg 0) (-1))))]) H := hP
  have hD : va_D A ([(h0, .inr (5, [.null, .null, .null])), (q1, .inl (cz 0, 4, .inl (upd (fun _ => 0) (Int32.toNatClampNeg 0) (-1))))]) := hD
  refine lv_dup hx hb dX5_init_12 rfl ?_
  refine lv_iconst (v := 1) hx hb dX5_init_13 (by decide) ?_
  refine lv_iconst (v := (-1)) hx hb dX5_init_14 (by decide) ?_
  refine va_iast hx hb X.2.2.2.2.2 hP hD hS 1 0 (cA := cz 0) (n := 4) (f := (upd (fun _ => 0) (Int32.toNatClampNeg 0) (-1))) rfl rfl (v_in (rg_k (by decide) : rg 1 1 1) (by decide)) dX5_init_15 (fun H locs hP hD hS => ?_)
  have hP : va_P D vwCl ([(h0, .inr (5, [.null, .null, .null])), (q1, .inl (cz 0, 4, .inl (upd (upd (fun _ => 0) (Int32.toNatClampNeg 0) (-1)) (Int32.toNatClampNeg 1) (-1))))]) H := hP
  have hD : va_D A ([(h0, .inr (5, [.null, .null, .null])), (q1, .inl (cz 0, 4, .inl (upd (upd (fun _ => 0) (Int32.toNatClampNeg 0) (-1)) (Int32.toNatClampNeg 1) (-1))))]) := hD
  refine lv_dup hx hb dX5_init_16 rfl ?_
  refine lv_iconst (v := 2) hx hb dX5_init_17 (by decide) ?_
  refine lv_iconst (v := (-1)) hx hb dX5_init_18 (by decide) ?_
  refine va_iast hx hb X.2.2.2.2.2 hP hD hS 1 0 (cA := cz 0) (n := 4) (f := (upd (upd (fun _ => 0) (Int32.toNatClampNeg 0) (-1)) (Int32.toNatClampNeg 1) (-1))) rfl rfl (v_in (rg_k (by decide) : rg 2 2 2) (by decide)) dX5_init_19 (fun H locs hP hD hS => ?_)
  have hP : va_P D vwCl ([(h0, .inr (5, [.null, .null, .null])), (q1, .inl (cz 0, 4, .inl (upd (upd (upd (fun _ => 0) (Int32.toNatClampNeg 0) (-1)) (Int32.toNatClampNeg 1) (-1)) (Int32.toNatClampNeg 2) (-1))))]) H := hP
  have hD : va_D A ([(h0, .inr (5, [.null, .null, .null])), (q1, .inl (cz 0, 4, .inl (upd (upd (upd (fun _ => 0) (Int32.toNatClampNeg 0) (-1)) (Int32.toNatClampNeg 1) (-1)) (Int32.toNatClampNeg 2) (-1))))]) := hD
  refine lv_dup hx hb dX5_init_20 rfl ?_
  refine lv_iconst (v := 3) hx hb dX5_init_21 (by decide) ?_
  refine lv_iconst (v := (-1)) hx hb dX5_init_22 (by decide) ?_
  refine va_iast hx hb X.2.2.2.2.2 hP hD hS 1 0 (cA := cz 0) (n := 4) (f := (upd (upd (upd (fun _ => 0) (Int32.toNatClampNeg 0) (-1)) (Int32.toNatClampNeg 1) (-1)) (Int32.toNatClampNeg 2) (-1))) rfl rfl (v_in (rg_k (by decide) : rg 3 3 3) (by decide)) dX5_init_23 (fun H locs hP hD hS => ?_)
  have hP : va_P D vwCl ([(h0, .inr (5, [.null, .null, .null])), (q1, .inl (cz 0, 4, .inl (upd (upd (upd (upd (fun _ => 0) (Int32.toNatClampNeg 0) (-1)) (Int32.toNatClampNeg 1) (-1)) (Int32.toNatClampNeg 2) (-1)) (Int32.toNatClampNeg 3) (-1))))]) H := hP
  have hD : va_D A ([(h0, .inr (5, [.null, .null, .null])), (q1, .inl (cz 0, 4, .inl (upd (upd (upd (upd (fun _ => 0) (Int32.toNatClampNeg 0) (-1)) (Int32.toNatClampNeg 1) (-1)) (Int32.toNatClampNeg 2) (-1)) (Int32.toNatClampNeg 3) (-1))))]) := hD
  refine n_putF X hin hP hD hS 0 0 qk_5_9 rfl rfl rfl (Nat.le_of_ble_eq_true rfl) dX5_init_24 (fun H locs hP hD hS => ?_)
  have hP : va_P D vwCl ([(h0, .inr (5, [.ref q1, .null, .null])), (q1, .inl (cz 0, 4, .inl (upd (upd (upd (upd (fun _ => 0) (Int32.toNatClampNeg 0) (-1)) (Int32.toNatClampNeg 1) (-1)) (Int32.toNatClampNeg 2) (-1)) (Int32.toNatClampNeg 3) (-1))))]) H := hP
  have hD : va_D A ([(h0, .inr (5, [.ref q1, .null, .null])), (q1, .inl (cz 0, 4, .inl (upd (upd (upd (upd (fun _ => 0) (Int32.toNatClampNeg 0) (-1)) (Int32.toNatClampNeg 1) (-1)) (Int32.toNatClampNeg 2) (-1)) (Int32.toNatClampNeg 3) (-1))))]) := hD
  refine lv_aload_n hx hb dX5_init_27 rfl (lv_at hl 0 rfl) ?_
  refine lv_iconst (v := 4) hx hb dX5_init_28 (by decide) ?_
  refine n_newa (ty := .int) (N' := 4) (a0 := (4, .inl (fun _ => 0))) X hP hD hS hA 0 rfl rfl gm_258 (fun _ => rfl) (by decide) (by decide) (by decide) (Nat.le_of_ble_eq_true rfl) (Nat.le_of_ble_eq_true rfl) dX5_init_29 (fun q2 H hP hD hS => ?_)
  have hP : va_P D vwCl ([(h0, .inr (5, [.ref q1, .null, .null])), (q1, .inl (cz 0, 4, .inl (upd (upd (upd (upd (fun _ => 0) (Int32.toNatClampNeg 0) (-1)) (Int32.toNatClampNeg 1) (-1)) (Int32.toNatClampNeg 2) (-1)) (Int32.toNatClampNeg 3) (-1)))), (q2, .inl (cz 0, 4, .inl (fun _ => 0)))]) H := hP
  have hD : va_D A ([(h0, .inr (5, [.ref q1, .null, .null])), (q1, .inl (cz 0, 4, .inl (upd (upd (upd (upd (fun _ => 0) (Int32.toNatClampNeg 0) (-1)) (Int32.toNatClampNeg 1) (-1)) (Int32.toNatClampNeg 2) (-1)) (Int32.toNatClampNeg 3) (-1)))), (q2, .inl (cz 0, 4, .inl (fun _ => 0)))]) := hD
  refine n_putF X hin hP hD hS 0 1 qk_5_15 rfl rfl rfl (Nat.le_of_ble_eq_true rfl) dX5_init_31 (fun H locs hP hD hS => ?_)
  have hP : va_P D vwCl ([(h0, .inr (5, [.ref q1, .ref q2, .null])), (q1, .inl (cz 0, 4, .inl (upd (upd (upd (upd (fun _ => 0) (Int32.toNatClampNeg 0) (-1)) (Int32.toNatClampNeg 1) (-1)) (Int32.toNatClampNeg 2) (-1)) (Int32.toNatClampNeg 3) (-1)))), (q2, .inl (cz 0, 4, .inl (fun _ => 0)))]) H := hP
  have hD : va_D A ([(h0, .inr (5, [.ref q1, .ref q2, .null])), (q1, .inl (cz 0, 4, .inl (upd (upd (upd (upd (fun _ => 0) (Int32.toNatClampNeg 0) (-1)) (Int32.toNatClampNeg 1) (-1)) (Int32.toNatClampNeg 2) (-1)) (Int32.toNatClampNeg 3) (-1)))), (q2, .inl (cz 0, 4, .inl (fun _ => 0)))]) := hD
  refine lv_aload_n hx hb dX5_init_34 rfl (lv_at hl 0 rfl) ?_
  refine lv_sipush (v := 240) hx hb dX5_init_35 (by decide) ?_
  refine n_newa (ty := .long) (N' := 240) (a0 := (240, .inr (.inl (fun _ => 0)))) X hP hD hS hA 3 rfl rfl gm_310 (fun _ => rfl) (by decide) (by decide) (by decide) (Nat.le_of_ble_eq_true rfl) (Nat.le_of_ble_eq_true rfl) dX5_init_38 (fun q3 H hP hD hS => ?_)
  have hP : va_P D vwCl ([(h0, .inr (5, [.ref q1, .ref q2, .null])), (q1, .inl (cz 0, 4, .inl (upd (upd (upd (upd (fun _ => 0) (Int32.toNatClampNeg 0) (-1)) (Int32.toNatClampNeg 1) (-1)) (Int32.toNatClampNeg 2) (-1)) (Int32.toNatClampNeg 3) (-1)))), (q2, .inl (cz 0, 4, .inl (fun _ => 0))), (q3, .inl (cz 3, 240, .inr (.inl (fun _ => 0))))]) H := hP
  have hD : va_D A ([(h0, .inr (5, [.ref q1, .ref q2, .null])), (q1, .inl (cz 0, 4, .inl (upd (upd (upd (upd (fun _ => 0) (Int32.toNatClampNeg 0) (-1)) (Int32.toNatClampNeg 1) (-1)) (Int32.toNatClampNeg 2) (-1)) (Int32.toNatClampNeg 3) (-1)))), (q2, .inl (cz 0, 4, .inl (fun _ => 0))), (q3, .inl (cz 3, 240, .inr (.inl (fun _ => 0))))]) := hD
  refine n_putF X hin hP hD hS 0 2 qk_5_18 rfl rfl rfl (Nat.le_of_ble_eq_true rfl) dX5_init_40 (fun H locs hP hD hS => ?_)
  have hP : va_P D vwCl ([(h0, .inr (5, [.ref q1, .ref q2, .ref q3])), (q1, .inl (cz 0, 4, .inl (upd (upd (upd (upd (fun _ => 0) (Int32.toNatClampNeg 0) (-1)) (Int32.toNatClampNeg 1) (-1)) (Int32.toNatClampNeg 2) (-1)) (Int32.toNatClampNeg 3) (-1)))), (q2, .inl (cz 0, 4, .inl (fun _ => 0))), (q3, .inl (cz 3, 240, .inr (.inl (fun _ => 0))))]) H := hP
  have hD : va_D A ([(h0, .inr (5, [.ref q1, .ref q2, .ref q3])), (q1, .inl (cz 0, 4, .inl (upd (upd (upd (upd (fun _ => 0) (Int32.toNatClampNeg 0) (-1)) (Int32.toNatClampNeg 1) (-1)) (Int32.toNatClampNeg 2) (-1)) (Int32.toNatClampNeg 3) (-1)))), (q2, .inl (cz 0, 4, .inl (fun _ => 0))), (q3, .inl (cz 3, 240, .inr (.inl (fun _ => 0))))]) := hD
  subst hAe
  exact n_ret (w := fun f => slW cz h0  f) X hr hlk (fun k => ([q1, q2, q3] : List Nat).getD k 0) hP hD hS (Nat.le_of_ble_eq_true rfl) (Nat.le_of_ble_eq_true rfl) dX5_init_43

def paW (cz : Nat → ClassId) (h0 : Nat) (a1 : Nat) (a2 : Nat) (f : Nat → Nat) : va_W := [(h0, .inr (3, [.ref a1, .ref a2, .int 0, .int 0, .int 0, .int 0, .int 0, .int (-1)]))]
set_option maxRecDepth 100000 in
set_option maxHeartbeats 4000000 in
theorem ct_pa {l : Launch} {D : va_G} {cz : Nat → ClassId} (h0 sz : Nat) (a1 : Nat) (a2 : Nat) : CtN (Nat → Nat) l yX3_init cX3_init 3 ({ frames := 1, cells := 0, slots := 0, locals := 12 } : Room) D cz sz [(h0, .inr (3, [.null, .null, .int 0, .int 0, .int 0, .int 0, .int 0, .int 0]))] noNW [.ref h0, .ref a1, .ref a2] (fun f => paW cz h0 a1 a2 f) 0 0 := by
  refine n_entry pn_X3_init rfl (Nat.le_of_ble_eq_true rfl) ?_
  intro p e s m args below meth c ls A hAe X hr hlk hin hP hD hA hl hS hN
  have hx := X.1
  have hb := X.2.1
  have hl : lv_has ls 3 [(0, .ref h0), (1, .ref a1), (2, .ref a2)] := hl
  refine lv_aload_n hx hb dX3_init_0 rfl (lv_at hl 0 rfl) ?_
  refine n_obj X gm_264 gm_132 gm_oc hl.1 dX3_init_1 (Nat.le_of_ble_eq_true rfl) (Nat.le_of_ble_eq_true rfl) ?_
  refine lv_aload_n hx hb dX3_init_4 rfl (lv_at hl 0 rfl) ?_
  refine lv_iconst (v := (-1)) hx hb dX3_init_5 (by decide) ?_
  refine n_put X hP hD hS 0 7 pk_3_9 rfl rfl rfl (Nat.le_of_ble_eq_true rfl) dX3_init_6 (fun H locs hP hD hS => ?_)
  have hP : va_P D vwCl ([(h0, .inr (3, [.null, .null, .int 0, .int 0, .int 0, .int 0, .int 0, .int (-1)]))]) H := hP
  have hD : va_D A ([(h0, .inr (3, [.null, .null, .int 0, .int 0, .int 0, .int 0, .int 0, .int (-1)]))]) := hD
  refine lv_aload_n hx hb dX3_init_9 rfl (lv_at hl 0 rfl) ?_
  refine lv_aload_n hx hb dX3_init_10 rfl (lv_at hl 1 rfl) ?_
  refine n_putF X hin hP hD hS 0 0 qk_3_15 rfl rfl rfl (Nat.le_of_ble_eq_true rfl) dX3_init_11 (fun H locs hP hD hS => ?_)
  have hP : va_P D vwCl ([(h0, .inr (3, [.ref a1, .null, .int 0, .int 0, .int 0, .int 0, .int 0, .int (-1)]))]) H := hP
  have hD : va_D A ([(h0, .inr (3, [.ref a1, .null, .int 0, .int 0, .int 0, .int 0, .int 0, .int (-1)]))]) := hD
  refine lv_aload_n hx hb dX3_init_14 rfl (lv_at hl 0 rfl) ?_
  refine lv_aload_n hx hb dX3_init_15 rfl (lv_at hl 2 rfl) ?_
  refine n_putF X hin hP hD hS 0 1 qk_3_19 rfl rfl rfl (Nat.le_of_ble_eq_true rfl) dX3_init_16 (fun H locs hP hD hS => ?_)
  have hP : va_P D vwCl ([(h0, .inr (3, [.ref a1, .ref a2, .int 0, .int 0, .int 0, .int 0, .int 0, .int (-1)]))]) H := hP
  have hD : va_D A ([(h0, .inr (3, [.ref a1, .ref a2, .int 0, .int 0, .int 0, .int 0, .int 0, .int (-1)]))]) := hD
  subst hAe
  exact n_ret (w := fun f => paW cz h0 a1 a2 f) X hr hlk (fun k => ([] : List Nat).getD k 0) hP hD hS (Nat.le_of_ble_eq_true rfl) (Nat.le_of_ble_eq_true rfl) dX3_init_19

def coW (cz : Nat → ClassId) (h0 : Nat) (a1 : Nat) (f : Nat → Nat) : va_W := [(h0, .inr (0, [.ref a1, .ref (f 0), .ref (f 1), .ref (f 2), .ref (f 3), .ref (f 4), .ref (f 5), .int 0, .int 0, .int 0])), ((f 0), .inl (cz 0, 6, .inl (fun _ => 0))), ((f 1), .inl (cz 0, 72, .inl (fun _ => 0))), ((f 2), .inl (cz 0, 12, .inl (fun _ => 0))), ((f 3), .inl (cz 0, 13, .inl (fun _ => 0))), ((f 4), .inl (cz 0, 6, .inl (fun _ => 0))), ((f 5), .inl (cz 0, 13, .inl (fun _ => 0)))]
set_option maxRecDepth 100000 in
set_option maxHeartbeats 4000000 in
theorem ct_co {l : Launch} {D : va_G} {cz : Nat → ClassId} (h0 sz : Nat) (a1 : Nat) : CtN (Nat → Nat) l yX0_init cX0_init 2 ({ frames := 1, cells := 6, slots := 122, locals := 12 } : Room) D cz sz [(h0, .inr (0, [.null, .null, .null, .null, .null, .null, .null, .int 0, .int 0, .int 0]))] noNW [.ref h0, .ref a1] (fun f => coW cz h0 a1 f) 6 122 := by
  refine n_entry pn_X0_init rfl (Nat.le_of_ble_eq_true rfl) ?_
  intro p e s m args below meth c ls A hAe X hr hlk hin hP hD hA hl hS hN
  have hx := X.1
  have hb := X.2.1
  have hl : lv_has ls 2 [(0, .ref h0), (1, .ref a1)] := hl
  refine lv_aload_n hx hb dX0_init_0 rfl (lv_at hl 0 rfl) ?_
  refine n_obj X gm_316 gm_132 gm_oc hl.1 dX0_init_1 (Nat.le_of_ble_eq_true rfl) (Nat.le_of_ble_eq_true rfl) ?_
  refine lv_aload_n hx hb dX0_init_4 rfl (lv_at hl 0 rfl) ?_
  refine lv_bipush (v := 6) hx hb dX0_init_5 (by decide) ?_
  refine n_newa (ty := .int) (N' := 6) (a0 := (6, .inl (fun _ => 0))) X hP hD hS hA 0 rfl rfl gm_258 (fun _ => rfl) (by decide) (by decide) (by decide) (Nat.le_of_ble_eq_true rfl) (Nat.le_of_ble_eq_true rfl) dX0_init_7 (fun q1 H hP hD hS => ?_)
  have hP : va_P D vwCl ([(h0, .inr (0, [.null, .null, .null, .null, .null, .null, .null, .int 0, .int 0, .int 0])), (q1, .inl (cz 0, 6, .inl (fun _ => 0)))]) H := hP
  have hD : va_D A ([(h0, .inr (0, [.null, .null, .null, .null, .null, .null, .null, .int 0, .int 0, .int 0])), (q1, .inl (cz 0, 6, .inl (fun _ => 0)))]) := hD
  refine n_putF X hin hP hD hS 0 1 qk_0_9 rfl rfl rfl (Nat.le_of_ble_eq_true rfl) dX0_init_9 (fun H locs hP hD hS => ?_)
  have hP : va_P D vwCl ([(h0, .inr (0, [.null, .ref q1, .null, .null, .null, .null, .null, .int 0, .int 0, .int 0])), (q1, .inl (cz 0, 6, .inl (fun _ => 0)))]) H := hP
  have hD : va_D A ([(h0, .inr (0, [.null, .ref q1, .null, .null, .null, .null, .null, .int 0, .int 0, .int 0])), (q1, .inl (cz 0, 6, .inl (fun _ => 0)))]) := hD
  refine lv_aload_n hx hb dX0_init_12 rfl (lv_at hl 0 rfl) ?_
  refine lv_bipush (v := 72) hx hb dX0_init_13 (by decide) ?_
  refine n_newa (ty := .int) (N' := 72) (a0 := (72, .inl (fun _ => 0))) X hP hD hS hA 0 rfl rfl gm_258 (fun _ => rfl) (by decide) (by decide) (by decide) (Nat.le_of_ble_eq_true rfl) (Nat.le_of_ble_eq_true rfl) dX0_init_15 (fun q2 H hP hD hS => ?_)
  have hP : va_P D vwCl ([(h0, .inr (0, [.null, .ref q1, .null, .null, .null, .null, .null, .int 0, .int 0, .int 0])), (q1, .inl (cz 0, 6, .inl (fun _ => 0))), (q2, .inl (cz 0, 72, .inl (fun _ => 0)))]) H := hP
  have hD : va_D A ([(h0, .inr (0, [.null, .ref q1, .null, .null, .null, .null, .null, .int 0, .int 0, .int 0])), (q1, .inl (cz 0, 6, .inl (fun _ => 0))), (q2, .inl (cz 0, 72, .inl (fun _ => 0)))]) := hD
  refine n_putF X hin hP hD hS 0 2 qk_0_15 rfl rfl rfl (Nat.le_of_ble_eq_true rfl) dX0_init_17 (fun H locs hP hD hS => ?_)
  have hP : va_P D vwCl ([(h0, .inr (0, [.null, .ref q1, .ref q2, .null, .null, .null, .null, .int 0, .int 0, .int 0])), (q1, .inl (cz 0, 6, .inl (fun _ => 0))), (q2, .inl (cz 0, 72, .inl (fun _ => 0)))]) H := hP
  have hD : va_D A ([(h0, .inr (0, [.null, .ref q1, .ref q2, .null, .null, .null, .null, .int 0, .int 0, .int 0])), (q1, .inl (cz 0, 6, .inl (fun _ => 0))), (q2, .inl (cz 0, 72, .inl (fun _ => 0)))]) := hD
  refine lv_aload_n hx hb dX0_init_20 rfl (lv_at hl 0 rfl) ?_
  refine lv_bipush (v := 12) hx hb dX0_init_21 (by decide) ?_
  refine n_newa (ty := .int) (N' := 12) (a0 := (12, .inl (fun _ => 0))) X hP hD hS hA 0 rfl rfl gm_258 (fun _ => rfl) (by decide) (by decide) (by decide) (Nat.le_of_ble_eq_true rfl) (Nat.le_of_ble_eq_true rfl) dX0_init_23 (fun q3 H hP hD hS => ?_)
  have hP : va_P D vwCl ([(h0, .inr (0, [.null, .ref q1, .ref q2, .null, .null, .null, .null, .int 0, .int 0, .int 0])), (q1, .inl (cz 0, 6, .inl (fun _ => 0))), (q2, .inl (cz 0, 72, .inl (fun _ => 0))), (q3, .inl (cz 0, 12, .inl (fun _ => 0)))]) H := hP
  have hD : va_D A ([(h0, .inr (0, [.null, .ref q1, .ref q2, .null, .null, .null, .null, .int 0, .int 0, .int 0])), (q1, .inl (cz 0, 6, .inl (fun _ => 0))), (q2, .inl (cz 0, 72, .inl (fun _ => 0))), (q3, .inl (cz 0, 12, .inl (fun _ => 0)))]) := hD
  refine n_putF X hin hP hD hS 0 3 qk_0_18 rfl rfl rfl (Nat.le_of_ble_eq_true rfl) dX0_init_25 (fun H locs hP hD hS => ?_)
  have hP : va_P D vwCl ([(h0, .inr (0, [.null, .ref q1, .ref q2, .ref q3, .null, .null, .null, .int 0, .int 0, .int 0])), (q1, .inl (cz 0, 6, .inl (fun _ => 0))), (q2, .inl (cz 0, 72, .inl (fun _ => 0))), (q3, .inl (cz 0, 12, .inl (fun _ => 0)))]) H := hP
  have hD : va_D A ([(h0, .inr (0, [.null, .ref q1, .ref q2, .ref q3, .null, .null, .null, .int 0, .int 0, .int 0])), (q1, .inl (cz 0, 6, .inl (fun _ => 0))), (q2, .inl (cz 0, 72, .inl (fun _ => 0))), (q3, .inl (cz 0, 12, .inl (fun _ => 0)))]) := hD
  refine lv_aload_n hx hb dX0_init_28 rfl (lv_at hl 0 rfl) ?_
  refine lv_bipush (v := 13) hx hb dX0_init_29 (by decide) ?_
  refine n_newa (ty := .int) (N' := 13) (a0 := (13, .inl (fun _ => 0))) X hP hD hS hA 0 rfl rfl gm_258 (fun _ => rfl) (by decide) (by decide) (by decide) (Nat.le_of_ble_eq_true rfl) (Nat.le_of_ble_eq_true rfl) dX0_init_31 (fun q4 H hP hD hS => ?_)
  have hP : va_P D vwCl ([(h0, .inr (0, [.null, .ref q1, .ref q2, .ref q3, .null, .null, .null, .int 0, .int 0, .int 0])), (q1, .inl (cz 0, 6, .inl (fun _ => 0))), (q2, .inl (cz 0, 72, .inl (fun _ => 0))), (q3, .inl (cz 0, 12, .inl (fun _ => 0))), (q4, .inl (cz 0, 13, .inl (fun _ => 0)))]) H := hP
  have hD : va_D A ([(h0, .inr (0, [.null, .ref q1, .ref q2, .ref q3, .null, .null, .null, .int 0, .int 0, .int 0])), (q1, .inl (cz 0, 6, .inl (fun _ => 0))), (q2, .inl (cz 0, 72, .inl (fun _ => 0))), (q3, .inl (cz 0, 12, .inl (fun _ => 0))), (q4, .inl (cz 0, 13, .inl (fun _ => 0)))]) := hD
  refine n_putF X hin hP hD hS 0 4 qk_0_21 rfl rfl rfl (Nat.le_of_ble_eq_true rfl) dX0_init_33 (fun H locs hP hD hS => ?_)
  have hP : va_P D vwCl ([(h0, .inr (0, [.null, .ref q1, .ref q2, .ref q3, .ref q4, .null, .null, .int 0, .int 0, .int 0])), (q1, .inl (cz 0, 6, .inl (fun _ => 0))), (q2, .inl (cz 0, 72, .inl (fun _ => 0))), (q3, .inl (cz 0, 12, .inl (fun _ => 0))), (q4, .inl (cz 0, 13, .inl (fun _ => 0)))]) H := hP
  have hD : va_D A ([(h0, .inr (0, [.null, .ref q1, .ref q2, .ref q3, .ref q4, .null, .null, .int 0, .int 0, .int 0])), (q1, .inl (cz 0, 6, .inl (fun _ => 0))), (q2, .inl (cz 0, 72, .inl (fun _ => 0))), (q3, .inl (cz 0, 12, .inl (fun _ => 0))), (q4, .inl (cz 0, 13, .inl (fun _ => 0)))]) := hD
  refine lv_aload_n hx hb dX0_init_36 rfl (lv_at hl 0 rfl) ?_
  refine lv_bipush (v := 6) hx hb dX0_init_37 (by decide) ?_
  refine n_newa (ty := .int) (N' := 6) (a0 := (6, .inl (fun _ => 0))) X hP hD hS hA 0 rfl rfl gm_258 (fun _ => rfl) (by decide) (by decide) (by decide) (Nat.le_of_ble_eq_true rfl) (Nat.le_of_ble_eq_true rfl) dX0_init_39 (fun q5 H hP hD hS => ?_)
  have hP : va_P D vwCl ([(h0, .inr (0, [.null, .ref q1, .ref q2, .ref q3, .ref q4, .null, .null, .int 0, .int 0, .int 0])), (q1, .inl (cz 0, 6, .inl (fun _ => 0))), (q2, .inl (cz 0, 72, .inl (fun _ => 0))), (q3, .inl (cz 0, 12, .inl (fun _ => 0))), (q4, .inl (cz 0, 13, .inl (fun _ => 0))), (q5, .inl (cz 0, 6, .inl (fun _ => 0)))]) H := hP
  have hD : va_D A ([(h0, .inr (0, [.null, .ref q1, .ref q2, .ref q3, .ref q4, .null, .null, .int 0, .int 0, .int 0])), (q1, .inl (cz 0, 6, .inl (fun _ => 0))), (q2, .inl (cz 0, 72, .inl (fun _ => 0))), (q3, .inl (cz 0, 12, .inl (fun _ => 0))), (q4, .inl (cz 0, 13, .inl (fun _ => 0))), (q5, .inl (cz 0, 6, .inl (fun _ => 0)))]) := hD
  refine n_putF X hin hP hD hS 0 5 qk_0_24 rfl rfl rfl (Nat.le_of_ble_eq_true rfl) dX0_init_41 (fun H locs hP hD hS => ?_)
  have hP : va_P D vwCl ([(h0, .inr (0, [.null, .ref q1, .ref q2, .ref q3, .ref q4, .ref q5, .null, .int 0, .int 0, .int 0])), (q1, .inl (cz 0, 6, .inl (fun _ => 0))), (q2, .inl (cz 0, 72, .inl (fun _ => 0))), (q3, .inl (cz 0, 12, .inl (fun _ => 0))), (q4, .inl (cz 0, 13, .inl (fun _ => 0))), (q5, .inl (cz 0, 6, .inl (fun _ => 0)))]) H := hP
  have hD : va_D A ([(h0, .inr (0, [.null, .ref q1, .ref q2, .ref q3, .ref q4, .ref q5, .null, .int 0, .int 0, .int 0])), (q1, .inl (cz 0, 6, .inl (fun _ => 0))), (q2, .inl (cz 0, 72, .inl (fun _ => 0))), (q3, .inl (cz 0, 12, .inl (fun _ => 0))), (q4, .inl (cz 0, 13, .inl (fun _ => 0))), (q5, .inl (cz 0, 6, .inl (fun _ => 0)))]) := hD
  refine lv_aload_n hx hb dX0_init_44 rfl (lv_at hl 0 rfl) ?_
  refine lv_bipush (v := 13) hx hb dX0_init_45 (by decide) ?_
  refine n_newa (ty := .int) (N' := 13) (a0 := (13, .inl (fun _ => 0))) X hP hD hS hA 0 rfl rfl gm_258 (fun _ => rfl) (by decide) (by decide) (by decide) (Nat.le_of_ble_eq_true rfl) (Nat.le_of_ble_eq_true rfl) dX0_init_47 (fun q6 H hP hD hS => ?_)
  have hP : va_P D vwCl ([(h0, .inr (0, [.null, .ref q1, .ref q2, .ref q3, .ref q4, .ref q5, .null, .int 0, .int 0, .int 0])), (q1, .inl (cz 0, 6, .inl (fun _ => 0))), (q2, .inl (cz 0, 72, .inl (fun _ => 0))), (q3, .inl (cz 0, 12, .inl (fun _ => 0))), (q4, .inl (cz 0, 13, .inl (fun _ => 0))), (q5, .inl (cz 0, 6, .inl (fun _ => 0))), (q6, .inl (cz 0, 13, .inl (fun _ => 0)))]) H := hP
  have hD : va_D A ([(h0, .inr (0, [.null, .ref q1, .ref q2, .ref q3, .ref q4, .ref q5, .null, .int 0, .int 0, .int 0])), (q1, .inl (cz 0, 6, .inl (fun _ => 0))), (q2, .inl (cz 0, 72, .inl (fun _ => 0))), (q3, .inl (cz 0, 12, .inl (fun _ => 0))), (q4, .inl (cz 0, 13, .inl (fun _ => 0))), (q5, .inl (cz 0, 6, .inl (fun _ => 0))), (q6, .inl (cz 0, 13, .inl (fun _ => 0)))]) := hD
  refine n_putF X hin hP hD hS 0 6 qk_0_27 rfl rfl rfl (Nat.le_of_ble_eq_true rfl) dX0_init_49 (fun H locs hP hD hS => ?_)
  have hP : va_P D vwCl ([(h0, .inr (0, [.null, .ref q1, .ref q2, .ref q3, .ref q4, .ref q5, .ref q6, .int 0, .int 0, .int 0])), (q1, .inl (cz 0, 6, .inl (fun _ => 0))), (q2, .inl (cz 0, 72, .inl (fun _ => 0))), (q3, .inl (cz 0, 12, .inl (fun _ => 0))), (q4, .inl (cz 0, 13, .inl (fun _ => 0))), (q5, .inl (cz 0, 6, .inl (fun _ => 0))), (q6, .inl (cz 0, 13, .inl (fun _ => 0)))]) H := hP
  have hD : va_D A ([(h0, .inr (0, [.null, .ref q1, .ref q2, .ref q3, .ref q4, .ref q5, .ref q6, .int 0, .int 0, .int 0])), (q1, .inl (cz 0, 6, .inl (fun _ => 0))), (q2, .inl (cz 0, 72, .inl (fun _ => 0))), (q3, .inl (cz 0, 12, .inl (fun _ => 0))), (q4, .inl (cz 0, 13, .inl (fun _ => 0))), (q5, .inl (cz 0, 6, .inl (fun _ => 0))), (q6, .inl (cz 0, 13, .inl (fun _ => 0)))]) := hD
  refine lv_aload_n hx hb dX0_init_52 rfl (lv_at hl 0 rfl) ?_
  refine lv_aload_n hx hb dX0_init_53 rfl (lv_at hl 1 rfl) ?_
  refine n_putF X hin hP hD hS 0 0 qk_0_30 rfl rfl rfl (Nat.le_of_ble_eq_true rfl) dX0_init_54 (fun H locs hP hD hS => ?_)
  have hP : va_P D vwCl ([(h0, .inr (0, [.ref a1, .ref q1, .ref q2, .ref q3, .ref q4, .ref q5, .ref q6, .int 0, .int 0, .int 0])), (q1, .inl (cz 0, 6, .inl (fun _ => 0))), (q2, .inl (cz 0, 72, .inl (fun _ => 0))), (q3, .inl (cz 0, 12, .inl (fun _ => 0))), (q4, .inl (cz 0, 13, .inl (fun _ => 0))), (q5, .inl (cz 0, 6, .inl (fun _ => 0))), (q6, .inl (cz 0, 13, .inl (fun _ => 0)))]) H := hP
  have hD : va_D A ([(h0, .inr (0, [.ref a1, .ref q1, .ref q2, .ref q3, .ref q4, .ref q5, .ref q6, .int 0, .int 0, .int 0])), (q1, .inl (cz 0, 6, .inl (fun _ => 0))), (q2, .inl (cz 0, 72, .inl (fun _ => 0))), (q3, .inl (cz 0, 12, .inl (fun _ => 0))), (q4, .inl (cz 0, 13, .inl (fun _ => 0))), (q5, .inl (cz 0, 6, .inl (fun _ => 0))), (q6, .inl (cz 0, 13, .inl (fun _ => 0)))]) := hD
  subst hAe
  exact n_ret (w := fun f => coW cz h0 a1 f) X hr hlk (fun k => ([q1, q2, q3, q4, q5, q6] : List Nat).getD k 0) hP hD hS (Nat.le_of_ble_eq_true rfl) (Nat.le_of_ble_eq_true rfl) dX0_init_57

def plW (cz : Nat → ClassId) (h0 : Nat) (a1 : Nat) (a2 : Nat) (f : Nat → Nat) : va_W := [(h0, .inr (4, [.ref a1, .ref a2, .ref (f 0), .ref (f 7), .ref (f 8), .ref (f 9), .ref (f 10), .int 0, .int 0])), ((f 0), .inl (cz 5, 6, .inr (.inr (.inr (.inr (fun z => if z < 6 then some (([(f 1), (f 2), (f 3), (f 4), (f 5), (f 6)] : List Nat).getD z 0) else none)))))), ((f 1), .inl (cz 0, 6, .inl (fun _ => 0))), ((f 2), .inl (cz 0, 6, .inl (fun _ => 0))), ((f 3), .inl (cz 0, 6, .inl (fun _ => 0))), ((f 4), .inl (cz 0, 6, .inl (fun _ => 0))), ((f 5), .inl (cz 0, 6, .inl (fun _ => 0))), ((f 6), .inl (cz 0, 6, .inl (fun _ => 0))), ((f 7), .inl (cz 0, 6, .inl (fun _ => 0))), ((f 8), .inl (cz 0, 6, .inl (fun _ => 0))), ((f 9), .inl (cz 0, 5, .inl (fun _ => 0))), ((f 10), .inl (cz 0, 5, .inl (fun _ => 0)))]
set_option maxRecDepth 100000 in
set_option maxHeartbeats 4000000 in
theorem ct_pl {l : Launch} {D : va_G} {cz : Nat → ClassId} (h0 sz : Nat) (a1 : Nat) (a2 : Nat) : CtN (Nat → Nat) l yX4_init cX4_init 3 ({ frames := 1, cells := 11, slots := 64, locals := 12 } : Room) D cz sz [(h0, .inr (4, [.null, .null, .null, .null, .null, .null, .null, .int 0, .int 0]))] (fun U => va_AOA .int U) [.ref h0, .ref a1, .ref a2] (fun f => plW cz h0 a1 a2 f) 11 64 := by
  refine n_entry pn_X4_init rfl (Nat.le_of_ble_eq_true rfl) ?_
  intro p e s m args below meth c ls A hAe X hr hlk hin hP hD hA hl hS hN
  have hx := X.1
  have hb := X.2.1
  have hl : lv_has ls 3 [(0, .ref h0), (1, .ref a1), (2, .ref a2)] := hl
  refine lv_aload_n hx hb dX4_init_0 rfl (lv_at hl 0 rfl) ?_
  refine n_obj X gm_357 gm_132 gm_oc hl.1 dX4_init_1 (Nat.le_of_ble_eq_true rfl) (Nat.le_of_ble_eq_true rfl) ?_
  refine lv_aload_n hx hb dX4_init_4 rfl (lv_at hl 0 rfl) ?_
  refine lv_bipush (v := 6) hx hb dX4_init_5 (by decide) ?_
  refine lv_bipush (v := 6) hx hb dX4_init_7 (by decide) ?_
  refine n_mna (N' := 6) (K' := 6) X hP hD hS hA gm_mna hN gm_258 (by decide) (by decide) (by decide) (by decide) (by decide) (by decide) (Nat.le_of_ble_eq_true rfl) (Nat.le_of_ble_eq_true rfl) dX4_init_9 (fun q1 r1 H hP hD hS => ?_)
  obtain ⟨p1_0, ep1_0⟩ : ∃ z, z = r1 0 := ⟨_, rfl⟩
  obtain ⟨p1_1, ep1_1⟩ : ∃ z, z = r1 1 := ⟨_, rfl⟩
  obtain ⟨p1_2, ep1_2⟩ : ∃ z, z = r1 2 := ⟨_, rfl⟩
  obtain ⟨p1_3, ep1_3⟩ : ∃ z, z = r1 3 := ⟨_, rfl⟩
  obtain ⟨p1_4, ep1_4⟩ : ∃ z, z = r1 4 := ⟨_, rfl⟩
  obtain ⟨p1_5, ep1_5⟩ : ∃ z, z = r1 5 := ⟨_, rfl⟩
  have hP := va_cellEq (y := (6, .inr (.inr (.inr (.inr (fun z => if z < 6 then some (([p1_0, p1_1, p1_2, p1_3, p1_4, p1_5] : List Nat).getD z 0) else none)))))) hP (k := 1) rfl (by
    rw [vp_cell_q, vp_cell_q]
    refine arrV_congr _ (fun j hj => ?_)
    rcases (show j = 0 ∨ j = 1 ∨ j = 2 ∨ j = 3 ∨ j = 4 ∨ j = 5 by omega) with rfl | rfl | rfl | rfl | rfl | rfl <;> simp [ep1_0, ep1_1, ep1_2, ep1_3, ep1_4, ep1_5])
  have hD : va_D A ([(h0, .inr (4, [.null, .null, .null, .null, .null, .null, .null, .int 0, .int 0])), (q1, .inl (cz 5, 6, .inr (.inr (.inr (.inr (fun z => if z < 6 then some (([p1_0, p1_1, p1_2, p1_3, p1_4, p1_5] : List Nat).getD z 0) else none)))))), (p1_0, .inl (cz 0, 6, .inl (fun _ => 0))), (p1_1, .inl (cz 0, 6, .inl (fun _ => 0))), (p1_2, .inl (cz 0, 6, .inl (fun _ => 0))), (p1_3, .inl (cz 0, 6, .inl (fun _ => 0))), (p1_4, .inl (cz 0, 6, .inl (fun _ => 0))), (p1_5, .inl (cz 0, 6, .inl (fun _ => 0)))]) := by
    have h9 := hD.set (p := 1) (a := q1) (e := .inl (cz 5, 6, .inr (.inr (.inr (.inr (fun z => if z < 6 then some (([p1_0, p1_1, p1_2, p1_3, p1_4, p1_5] : List Nat).getD z 0) else none)))))) rfl
    simp only [ep1_0, ep1_1, ep1_2, ep1_3, ep1_4, ep1_5]
    simp only [ep1_0, ep1_1, ep1_2, ep1_3, ep1_4, ep1_5] at h9
    exact h9
  have hP : va_P D vwCl ([(h0, .inr (4, [.null, .null, .null, .null, .null, .null, .null, .int 0, .int 0])), (q1, .inl (cz 5, 6, .inr (.inr (.inr (.inr (fun z => if z < 6 then some (([p1_0, p1_1, p1_2, p1_3, p1_4, p1_5] : List Nat).getD z 0) else none)))))), (p1_0, .inl (cz 0, 6, .inl (fun _ => 0))), (p1_1, .inl (cz 0, 6, .inl (fun _ => 0))), (p1_2, .inl (cz 0, 6, .inl (fun _ => 0))), (p1_3, .inl (cz 0, 6, .inl (fun _ => 0))), (p1_4, .inl (cz 0, 6, .inl (fun _ => 0))), (p1_5, .inl (cz 0, 6, .inl (fun _ => 0)))]) H := by
    simp only [ep1_0, ep1_1, ep1_2, ep1_3, ep1_4, ep1_5]
    simp only [ep1_0, ep1_1, ep1_2, ep1_3, ep1_4, ep1_5] at hP
    exact hP
  refine n_putF X hin hP hD hS 0 2 qk_4_11 rfl rfl rfl (Nat.le_of_ble_eq_true rfl) dX4_init_13 (fun H locs hP hD hS => ?_)
  have hP : va_P D vwCl ([(h0, .inr (4, [.null, .null, .ref q1, .null, .null, .null, .null, .int 0, .int 0])), (q1, .inl (cz 5, 6, .inr (.inr (.inr (.inr (fun z => if z < 6 then some (([p1_0, p1_1, p1_2, p1_3, p1_4, p1_5] : List Nat).getD z 0) else none)))))), (p1_0, .inl (cz 0, 6, .inl (fun _ => 0))), (p1_1, .inl (cz 0, 6, .inl (fun _ => 0))), (p1_2, .inl (cz 0, 6, .inl (fun _ => 0))), (p1_3, .inl (cz 0, 6, .inl (fun _ => 0))), (p1_4, .inl (cz 0, 6, .inl (fun _ => 0))), (p1_5, .inl (cz 0, 6, .inl (fun _ => 0)))]) H := hP
  have hD : va_D A ([(h0, .inr (4, [.null, .null, .ref q1, .null, .null, .null, .null, .int 0, .int 0])), (q1, .inl (cz 5, 6, .inr (.inr (.inr (.inr (fun z => if z < 6 then some (([p1_0, p1_1, p1_2, p1_3, p1_4, p1_5] : List Nat).getD z 0) else none)))))), (p1_0, .inl (cz 0, 6, .inl (fun _ => 0))), (p1_1, .inl (cz 0, 6, .inl (fun _ => 0))), (p1_2, .inl (cz 0, 6, .inl (fun _ => 0))), (p1_3, .inl (cz 0, 6, .inl (fun _ => 0))), (p1_4, .inl (cz 0, 6, .inl (fun _ => 0))), (p1_5, .inl (cz 0, 6, .inl (fun _ => 0)))]) := hD
  refine lv_aload_n hx hb dX4_init_16 rfl (lv_at hl 0 rfl) ?_
  refine lv_bipush (v := 6) hx hb dX4_init_17 (by decide) ?_
  refine n_newa (ty := .int) (N' := 6) (a0 := (6, .inl (fun _ => 0))) X hP hD hS hA 0 rfl rfl gm_258 (fun _ => rfl) (by decide) (by decide) (by decide) (Nat.le_of_ble_eq_true rfl) (Nat.le_of_ble_eq_true rfl) dX4_init_19 (fun q2 H hP hD hS => ?_)
  have hP : va_P D vwCl ([(h0, .inr (4, [.null, .null, .ref q1, .null, .null, .null, .null, .int 0, .int 0])), (q1, .inl (cz 5, 6, .inr (.inr (.inr (.inr (fun z => if z < 6 then some (([p1_0, p1_1, p1_2, p1_3, p1_4, p1_5] : List Nat).getD z 0) else none)))))), (p1_0, .inl (cz 0, 6, .inl (fun _ => 0))), (p1_1, .inl (cz 0, 6, .inl (fun _ => 0))), (p1_2, .inl (cz 0, 6, .inl (fun _ => 0))), (p1_3, .inl (cz 0, 6, .inl (fun _ => 0))), (p1_4, .inl (cz 0, 6, .inl (fun _ => 0))), (p1_5, .inl (cz 0, 6, .inl (fun _ => 0))), (q2, .inl (cz 0, 6, .inl (fun _ => 0)))]) H := hP
  have hD : va_D A ([(h0, .inr (4, [.null, .null, .ref q1, .null, .null, .null, .null, .int 0, .int 0])), (q1, .inl (cz 5, 6, .inr (.inr (.inr (.inr (fun z => if z < 6 then some (([p1_0, p1_1, p1_2, p1_3, p1_4, p1_5] : List Nat).getD z 0) else none)))))), (p1_0, .inl (cz 0, 6, .inl (fun _ => 0))), (p1_1, .inl (cz 0, 6, .inl (fun _ => 0))), (p1_2, .inl (cz 0, 6, .inl (fun _ => 0))), (p1_3, .inl (cz 0, 6, .inl (fun _ => 0))), (p1_4, .inl (cz 0, 6, .inl (fun _ => 0))), (p1_5, .inl (cz 0, 6, .inl (fun _ => 0))), (q2, .inl (cz 0, 6, .inl (fun _ => 0)))]) := hD
  refine n_putF X hin hP hD hS 0 3 qk_4_16 rfl rfl rfl (Nat.le_of_ble_eq_true rfl) dX4_init_21 (fun H locs hP hD hS => ?_)
  have hP : va_P D vwCl ([(h0, .inr (4, [.null, .null, .ref q1, .ref q2, .null, .null, .null, .int 0, .int 0])), (q1, .inl (cz 5, 6, .inr (.inr (.inr (.inr (fun z => if z < 6 then some (([p1_0, p1_1, p1_2, p1_3, p1_4, p1_5] : List Nat).getD z 0) else none)))))), (p1_0, .inl (cz 0, 6, .inl (fun _ => 0))), (p1_1, .inl (cz 0, 6, .inl (fun _ => 0))), (p1_2, .inl (cz 0, 6, .inl (fun _ => 0))), (p1_3, .inl (cz 0, 6, .inl (fun _ => 0))), (p1_4, .inl (cz 0, 6, .inl (fun _ => 0))), (p1_5, .inl (cz 0, 6, .inl (fun _ => 0))), (q2, .inl (cz 0, 6, .inl (fun _ => 0)))]) H := hP
  have hD : va_D A ([(h0, .inr (4, [.null, .null, .ref q1, .ref q2, .null, .null, .null, .int 0, .int 0])), (q1, .inl (cz 5, 6, .inr (.inr (.inr (.inr (fun z => if z < 6 then some (([p1_0, p1_1, p1_2, p1_3, p1_4, p1_5] : List Nat).getD z 0) else none)))))), (p1_0, .inl (cz 0, 6, .inl (fun _ => 0))), (p1_1, .inl (cz 0, 6, .inl (fun _ => 0))), (p1_2, .inl (cz 0, 6, .inl (fun _ => 0))), (p1_3, .inl (cz 0, 6, .inl (fun _ => 0))), (p1_4, .inl (cz 0, 6, .inl (fun _ => 0))), (p1_5, .inl (cz 0, 6, .inl (fun _ => 0))), (q2, .inl (cz 0, 6, .inl (fun _ => 0)))]) := hD
  refine lv_aload_n hx hb dX4_init_24 rfl (lv_at hl 0 rfl) ?_
  refine lv_bipush (v := 6) hx hb dX4_init_25 (by decide) ?_
  refine n_newa (ty := .int) (N' := 6) (a0 := (6, .inl (fun _ => 0))) X hP hD hS hA 0 rfl rfl gm_258 (fun _ => rfl) (by decide) (by decide) (by decide) (Nat.le_of_ble_eq_true rfl) (Nat.le_of_ble_eq_true rfl) dX4_init_27 (fun q3 H hP hD hS => ?_)
  have hP : va_P D vwCl ([(h0, .inr (4, [.null, .null, .ref q1, .ref q2, .null, .null, .null, .int 0, .int 0])), (q1, .inl (cz 5, 6, .inr (.inr (.inr (.inr (fun z => if z < 6 then some (([p1_0, p1_1, p1_2, p1_3, p1_4, p1_5] : List Nat).getD z 0) else none)))))), (p1_0, .inl (cz 0, 6, .inl (fun _ => 0))), (p1_1, .inl (cz 0, 6, .inl (fun _ => 0))), (p1_2, .inl (cz 0, 6, .inl (fun _ => 0))), (p1_3, .inl (cz 0, 6, .inl (fun _ => 0))), (p1_4, .inl (cz 0, 6, .inl (fun _ => 0))), (p1_5, .inl (cz 0, 6, .inl (fun _ => 0))), (q2, .inl (cz 0, 6, .inl (fun _ => 0))), (q3, .inl (cz 0, 6, .inl (fun _ => 0)))]) H := hP
  have hD : va_D A ([(h0, .inr (4, [.null, .null, .ref q1, .ref q2, .null, .null, .null, .int 0, .int 0])), (q1, .inl (cz 5, 6, .inr (.inr (.inr (.inr (fun z => if z < 6 then some (([p1_0, p1_1, p1_2, p1_3, p1_4, p1_5] : List Nat).getD z 0) else none)))))), (p1_0, .inl (cz 0, 6, .inl (fun _ => 0))), (p1_1, .inl (cz 0, 6, .inl (fun _ => 0))), (p1_2, .inl (cz 0, 6, .inl (fun _ => 0))), (p1_3, .inl (cz 0, 6, .inl (fun _ => 0))), (p1_4, .inl (cz 0, 6, .inl (fun _ => 0))), (p1_5, .inl (cz 0, 6, .inl (fun _ => 0))), (q2, .inl (cz 0, 6, .inl (fun _ => 0))), (q3, .inl (cz 0, 6, .inl (fun _ => 0)))]) := hD
  refine n_putF X hin hP hD hS 0 4 qk_4_20 rfl rfl rfl (Nat.le_of_ble_eq_true rfl) dX4_init_29 (fun H locs hP hD hS => ?_)
  have hP : va_P D vwCl ([(h0, .inr (4, [.null, .null, .ref q1, .ref q2, .ref q3, .null, .null, .int 0, .int 0])), (q1, .inl (cz 5, 6, .inr (.inr (.inr (.inr (fun z => if z < 6 then some (([p1_0, p1_1, p1_2, p1_3, p1_4, p1_5] : List Nat).getD z 0) else none)))))), (p1_0, .inl (cz 0, 6, .inl (fun _ => 0))), (p1_1, .inl (cz 0, 6, .inl (fun _ => 0))), (p1_2, .inl (cz 0, 6, .inl (fun _ => 0))), (p1_3, .inl (cz 0, 6, .inl (fun _ => 0))), (p1_4, .inl (cz 0, 6, .inl (fun _ => 0))), (p1_5, .inl (cz 0, 6, .inl (fun _ => 0))), (q2, .inl (cz 0, 6, .inl (fun _ => 0))), (q3, .inl (cz 0, 6, .inl (fun _ => 0)))]) H := hP
  have hD : va_D A ([(h0, .inr (4, [.null, .null, .ref q1, .ref q2, .ref q3, .null, .null, .int 0, .int 0])), (q1, .inl (cz 5, 6, .inr (.inr (.inr (.inr (fun z => if z < 6 then some (([p1_0, p1_1, p1_2, p1_3, p1_4, p1_5] : List Nat).getD z 0) else none)))))), (p1_0, .inl (cz 0, 6, .inl (fun _ => 0))), (p1_1, .inl (cz 0, 6, .inl (fun _ => 0))), (p1_2, .inl (cz 0, 6, .inl (fun _ => 0))), (p1_3, .inl (cz 0, 6, .inl (fun _ => 0))), (p1_4, .inl (cz 0, 6, .inl (fun _ => 0))), (p1_5, .inl (cz 0, 6, .inl (fun _ => 0))), (q2, .inl (cz 0, 6, .inl (fun _ => 0))), (q3, .inl (cz 0, 6, .inl (fun _ => 0)))]) := hD
  refine lv_aload_n hx hb dX4_init_32 rfl (lv_at hl 0 rfl) ?_
  refine lv_iconst (v := 5) hx hb dX4_init_33 (by decide) ?_
  refine n_newa (ty := .int) (N' := 5) (a0 := (5, .inl (fun _ => 0))) X hP hD hS hA 0 rfl rfl gm_258 (fun _ => rfl) (by decide) (by decide) (by decide) (Nat.le_of_ble_eq_true rfl) (Nat.le_of_ble_eq_true rfl) dX4_init_34 (fun q4 H hP hD hS => ?_)
  have hP : va_P D vwCl ([(h0, .inr (4, [.null, .null, .ref q1, .ref q2, .ref q3, .null, .null, .int 0, .int 0])), (q1, .inl (cz 5, 6, .inr (.inr (.inr (.inr (fun z => if z < 6 then some (([p1_0, p1_1, p1_2, p1_3, p1_4, p1_5] : List Nat).getD z 0) else none)))))), (p1_0, .inl (cz 0, 6, .inl (fun _ => 0))), (p1_1, .inl (cz 0, 6, .inl (fun _ => 0))), (p1_2, .inl (cz 0, 6, .inl (fun _ => 0))), (p1_3, .inl (cz 0, 6, .inl (fun _ => 0))), (p1_4, .inl (cz 0, 6, .inl (fun _ => 0))), (p1_5, .inl (cz 0, 6, .inl (fun _ => 0))), (q2, .inl (cz 0, 6, .inl (fun _ => 0))), (q3, .inl (cz 0, 6, .inl (fun _ => 0))), (q4, .inl (cz 0, 5, .inl (fun _ => 0)))]) H := hP
  have hD : va_D A ([(h0, .inr (4, [.null, .null, .ref q1, .ref q2, .ref q3, .null, .null, .int 0, .int 0])), (q1, .inl (cz 5, 6, .inr (.inr (.inr (.inr (fun z => if z < 6 then some (([p1_0, p1_1, p1_2, p1_3, p1_4, p1_5] : List Nat).getD z 0) else none)))))), (p1_0, .inl (cz 0, 6, .inl (fun _ => 0))), (p1_1, .inl (cz 0, 6, .inl (fun _ => 0))), (p1_2, .inl (cz 0, 6, .inl (fun _ => 0))), (p1_3, .inl (cz 0, 6, .inl (fun _ => 0))), (p1_4, .inl (cz 0, 6, .inl (fun _ => 0))), (p1_5, .inl (cz 0, 6, .inl (fun _ => 0))), (q2, .inl (cz 0, 6, .inl (fun _ => 0))), (q3, .inl (cz 0, 6, .inl (fun _ => 0))), (q4, .inl (cz 0, 5, .inl (fun _ => 0)))]) := hD
  refine n_putF X hin hP hD hS 0 5 qk_4_23 rfl rfl rfl (Nat.le_of_ble_eq_true rfl) dX4_init_36 (fun H locs hP hD hS => ?_)
  have hP : va_P D vwCl ([(h0, .inr (4, [.null, .null, .ref q1, .ref q2, .ref q3, .ref q4, .null, .int 0, .int 0])), (q1, .inl (cz 5, 6, .inr (.inr (.inr (.inr (fun z => if z < 6 then some (([p1_0, p1_1, p1_2, p1_3, p1_4, p1_5] : List Nat).getD z 0) else none)))))), (p1_0, .inl (cz 0, 6, .inl (fun _ => 0))), (p1_1, .inl (cz 0, 6, .inl (fun _ => 0))), (p1_2, .inl (cz 0, 6, .inl (fun _ => 0))), (p1_3, .inl (cz 0, 6, .inl (fun _ => 0))), (p1_4, .inl (cz 0, 6, .inl (fun _ => 0))), (p1_5, .inl (cz 0, 6, .inl (fun _ => 0))), (q2, .inl (cz 0, 6, .inl (fun _ => 0))), (q3, .inl (cz 0, 6, .inl (fun _ => 0))), (q4, .inl (cz 0, 5, .inl (fun _ => 0)))]) H := hP
  have hD : va_D A ([(h0, .inr (4, [.null, .null, .ref q1, .ref q2, .ref q3, .ref q4, .null, .int 0, .int 0])), (q1, .inl (cz 5, 6, .inr (.inr (.inr (.inr (fun z => if z < 6 then some (([p1_0, p1_1, p1_2, p1_3, p1_4, p1_5] : List Nat).getD z 0) else none)))))), (p1_0, .inl (cz 0, 6, .inl (fun _ => 0))), (p1_1, .inl (cz 0, 6, .inl (fun _ => 0))), (p1_2, .inl (cz 0, 6, .inl (fun _ => 0))), (p1_3, .inl (cz 0, 6, .inl (fun _ => 0))), (p1_4, .inl (cz 0, 6, .inl (fun _ => 0))), (p1_5, .inl (cz 0, 6, .inl (fun _ => 0))), (q2, .inl (cz 0, 6, .inl (fun _ => 0))), (q3, .inl (cz 0, 6, .inl (fun _ => 0))), (q4, .inl (cz 0, 5, .inl (fun _ => 0)))]) := hD
  refine lv_aload_n hx hb dX4_init_39 rfl (lv_at hl 0 rfl) ?_
  refine lv_iconst (v := 5) hx hb dX4_init_40 (by decide) ?_
  refine n_newa (ty := .int) (N' := 5) (a0 := (5, .inl (fun _ => 0))) X hP hD hS hA 0 rfl rfl gm_258 (fun _ => rfl) (by decide) (by decide) (by decide) (Nat.le_of_ble_eq_true rfl) (Nat.le_of_ble_eq_true rfl) dX4_init_41 (fun q5 H hP hD hS => ?_)
  have hP : va_P D vwCl ([(h0, .inr (4, [.null, .null, .ref q1, .ref q2, .ref q3, .ref q4, .null, .int 0, .int 0])), (q1, .inl (cz 5, 6, .inr (.inr (.inr (.inr (fun z => if z < 6 then some (([p1_0, p1_1, p1_2, p1_3, p1_4, p1_5] : List Nat).getD z 0) else none)))))), (p1_0, .inl (cz 0, 6, .inl (fun _ => 0))), (p1_1, .inl (cz 0, 6, .inl (fun _ => 0))), (p1_2, .inl (cz 0, 6, .inl (fun _ => 0))), (p1_3, .inl (cz 0, 6, .inl (fun _ => 0))), (p1_4, .inl (cz 0, 6, .inl (fun _ => 0))), (p1_5, .inl (cz 0, 6, .inl (fun _ => 0))), (q2, .inl (cz 0, 6, .inl (fun _ => 0))), (q3, .inl (cz 0, 6, .inl (fun _ => 0))), (q4, .inl (cz 0, 5, .inl (fun _ => 0))), (q5, .inl (cz 0, 5, .inl (fun _ => 0)))]) H := hP
  have hD : va_D A ([(h0, .inr (4, [.null, .null, .ref q1, .ref q2, .ref q3, .ref q4, .null, .int 0, .int 0])), (q1, .inl (cz 5, 6, .inr (.inr (.inr (.inr (fun z => if z < 6 then some (([p1_0, p1_1, p1_2, p1_3, p1_4, p1_5] : List Nat).getD z 0) else none)))))), (p1_0, .inl (cz 0, 6, .inl (fun _ => 0))), (p1_1, .inl (cz 0, 6, .inl (fun _ => 0))), (p1_2, .inl (cz 0, 6, .inl (fun _ => 0))), (p1_3, .inl (cz 0, 6, .inl (fun _ => 0))), (p1_4, .inl (cz 0, 6, .inl (fun _ => 0))), (p1_5, .inl (cz 0, 6, .inl (fun _ => 0))), (q2, .inl (cz 0, 6, .inl (fun _ => 0))), (q3, .inl (cz 0, 6, .inl (fun _ => 0))), (q4, .inl (cz 0, 5, .inl (fun _ => 0))), (q5, .inl (cz 0, 5, .inl (fun _ => 0)))]) := hD
  refine n_putF X hin hP hD hS 0 6 qk_4_26 rfl rfl rfl (Nat.le_of_ble_eq_true rfl) dX4_init_43 (fun H locs hP hD hS => ?_)
  have hP : va_P D vwCl ([(h0, .inr (4, [.null, .null, .ref q1, .ref q2, .ref q3, .ref q4, .ref q5, .int 0, .int 0])), (q1, .inl (cz 5, 6, .inr (.inr (.inr (.inr (fun z => if z < 6 then some (([p1_0, p1_1, p1_2, p1_3, p1_4, p1_5] : List Nat).getD z 0) else none)))))), (p1_0, .inl (cz 0, 6, .inl (fun _ => 0))), (p1_1, .inl (cz 0, 6, .inl (fun _ => 0))), (p1_2, .inl (cz 0, 6, .inl (fun _ => 0))), (p1_3, .inl (cz 0, 6, .inl (fun _ => 0))), (p1_4, .inl (cz 0, 6, .inl (fun _ => 0))), (p1_5, .inl (cz 0, 6, .inl (fun _ => 0))), (q2, .inl (cz 0, 6, .inl (fun _ => 0))), (q3, .inl (cz 0, 6, .inl (fun _ => 0))), (q4, .inl (cz 0, 5, .inl (fun _ => 0))), (q5, .inl (cz 0, 5, .inl (fun _ => 0)))]) H := hP
  have hD : va_D A ([(h0, .inr (4, [.null, .null, .ref q1, .ref q2, .ref q3, .ref q4, .ref q5, .int 0, .int 0])), (q1, .inl (cz 5, 6, .inr (.inr (.inr (.inr (fun z => if z < 6 then some (([p1_0, p1_1, p1_2, p1_3, p1_4, p1_5] : List Nat).getD z 0) else none)))))), (p1_0, .inl (cz 0, 6, .inl (fun _ => 0))), (p1_1, .inl (cz 0, 6, .inl (fun _ => 0))), (p1_2, .inl (cz 0, 6, .inl (fun _ => 0))), (p1_3, .inl (cz 0, 6, .inl (fun _ => 0))), (p1_4, .inl (cz 0, 6, .inl (fun _ => 0))), (p1_5, .inl (cz 0, 6, .inl (fun _ => 0))), (q2, .inl (cz 0, 6, .inl (fun _ => 0))), (q3, .inl (cz 0, 6, .inl (fun _ => 0))), (q4, .inl (cz 0, 5, .inl (fun _ => 0))), (q5, .inl (cz 0, 5, .inl (fun _ => 0)))]) := hD
  refine lv_aload_n hx hb dX4_init_46 rfl (lv_at hl 0 rfl) ?_
  refine lv_aload_n hx hb dX4_init_47 rfl (lv_at hl 1 rfl) ?_
  refine n_putF X hin hP hD hS 0 0 qk_4_29 rfl rfl rfl (Nat.le_of_ble_eq_true rfl) dX4_init_48 (fun H locs hP hD hS => ?_)
  have hP : va_P D vwCl ([(h0, .inr (4, [.ref a1, .null, .ref q1, .ref q2, .ref q3, .ref q4, .ref q5, .int 0, .int 0])), (q1, .inl (cz 5, 6, .inr (.inr (.inr (.inr (fun z => if z < 6 then some (([p1_0, p1_1, p1_2, p1_3, p1_4, p1_5] : List Nat).getD z 0) else none)))))), (p1_0, .inl (cz 0, 6, .inl (fun _ => 0))), (p1_1, .inl (cz 0, 6, .inl (fun _ => 0))), (p1_2, .inl (cz 0, 6, .inl (fun _ => 0))), (p1_3, .inl (cz 0, 6, .inl (fun _ => 0))), (p1_4, .inl (cz 0, 6, .inl (fun _ => 0))), (p1_5, .inl (cz 0, 6, .inl (fun _ => 0))), (q2, .inl (cz 0, 6, .inl (fun _ => 0))), (q3, .inl (cz 0, 6, .inl (fun _ => 0))), (q4, .inl (cz 0, 5, .inl (fun _ => 0))), (q5, .inl (cz 0, 5, .inl (fun _ => 0)))]) H := hP
  have hD : va_D A ([(h0, .inr (4, [.ref a1, .null, .ref q1, .ref q2, .ref q3, .ref q4, .ref q5, .int 0, .int 0])), (q1, .inl (cz 5, 6, .inr (.inr (.inr (.inr (fun z => if z < 6 then some (([p1_0, p1_1, p1_2, p1_3, p1_4, p1_5] : List Nat).getD z 0) else none)))))), (p1_0, .inl (cz 0, 6, .inl (fun _ => 0))), (p1_1, .inl (cz 0, 6, .inl (fun _ => 0))), (p1_2, .inl (cz 0, 6, .inl (fun _ => 0))), (p1_3, .inl (cz 0, 6, .inl (fun _ => 0))), (p1_4, .inl (cz 0, 6, .inl (fun _ => 0))), (p1_5, .inl (cz 0, 6, .inl (fun _ => 0))), (q2, .inl (cz 0, 6, .inl (fun _ => 0))), (q3, .inl (cz 0, 6, .inl (fun _ => 0))), (q4, .inl (cz 0, 5, .inl (fun _ => 0))), (q5, .inl (cz 0, 5, .inl (fun _ => 0)))]) := hD
  refine lv_aload_n hx hb dX4_init_51 rfl (lv_at hl 0 rfl) ?_
  refine lv_aload_n hx hb dX4_init_52 rfl (lv_at hl 2 rfl) ?_
  refine n_putF X hin hP hD hS 0 1 qk_4_33 rfl rfl rfl (Nat.le_of_ble_eq_true rfl) dX4_init_53 (fun H locs hP hD hS => ?_)
  have hP : va_P D vwCl ([(h0, .inr (4, [.ref a1, .ref a2, .ref q1, .ref q2, .ref q3, .ref q4, .ref q5, .int 0, .int 0])), (q1, .inl (cz 5, 6, .inr (.inr (.inr (.inr (fun z => if z < 6 then some (([p1_0, p1_1, p1_2, p1_3, p1_4, p1_5] : List Nat).getD z 0) else none)))))), (p1_0, .inl (cz 0, 6, .inl (fun _ => 0))), (p1_1, .inl (cz 0, 6, .inl (fun _ => 0))), (p1_2, .inl (cz 0, 6, .inl (fun _ => 0))), (p1_3, .inl (cz 0, 6, .inl (fun _ => 0))), (p1_4, .inl (cz 0, 6, .inl (fun _ => 0))), (p1_5, .inl (cz 0, 6, .inl (fun _ => 0))), (q2, .inl (cz 0, 6, .inl (fun _ => 0))), (q3, .inl (cz 0, 6, .inl (fun _ => 0))), (q4, .inl (cz 0, 5, .inl (fun _ => 0))), (q5, .inl (cz 0, 5, .inl (fun _ => 0)))]) H := hP
  have hD : va_D A ([(h0, .inr (4, [.ref a1, .ref a2, .ref q1, .ref q2, .ref q3, .ref q4, .ref q5, .int 0, .int 0])), (q1, .inl (cz 5, 6, .inr (.inr (.inr (.inr (fun z => if z < 6 then some (([p1_0, p1_1, p1_2, p1_3, p1_4, p1_5] : List Nat).getD z 0) else none)))))), (p1_0, .inl (cz 0, 6, .inl (fun _ => 0))), (p1_1, .inl (cz 0, 6, .inl (fun _ => 0))), (p1_2, .inl (cz 0, 6, .inl (fun _ => 0))), (p1_3, .inl (cz 0, 6, .inl (fun _ => 0))), (p1_4, .inl (cz 0, 6, .inl (fun _ => 0))), (p1_5, .inl (cz 0, 6, .inl (fun _ => 0))), (q2, .inl (cz 0, 6, .inl (fun _ => 0))), (q3, .inl (cz 0, 6, .inl (fun _ => 0))), (q4, .inl (cz 0, 5, .inl (fun _ => 0))), (q5, .inl (cz 0, 5, .inl (fun _ => 0)))]) := hD
  subst hAe
  exact n_ret (w := fun f => plW cz h0 a1 a2 f) X hr hlk (fun k => ([q1, p1_0, p1_1, p1_2, p1_3, p1_4, p1_5, q2, q3, q4, q5] : List Nat).getD k 0) hP hD hS (Nat.le_of_ble_eq_true rfl) (Nat.le_of_ble_eq_true rfl) dX4_init_56

def odW (cz : Nat → ClassId) (h0 : Nat) (a1 : Nat) (a2 : Nat) (f : Nat → Nat) : va_W := [(h0, .inr (2, [.ref a1, .ref a2, .ref (f 0), .long 0, .long 0])), ((f 0), .inl (cz 3, 6, .inr (.inl (fun _ => 0))))]
set_option maxRecDepth 100000 in
set_option maxHeartbeats 4000000 in
theorem ct_od {l : Launch} {D : va_G} {cz : Nat → ClassId} (h0 sz : Nat) (a1 : Nat) (a2 : Nat) : CtN (Nat → Nat) l yX2_init cX2_init 3 ({ frames := 1, cells := 1, slots := 6, locals := 12 } : Room) D cz sz [(h0, .inr (2, [.null, .null, .null, .long 0, .long 0]))] noNW [.ref h0, .ref a1, .ref a2] (fun f => odW cz h0 a1 a2 f) 1 6 := by
  refine n_entry pn_X2_init rfl (Nat.le_of_ble_eq_true rfl) ?_
  intro p e s m args below meth c ls A hAe X hr hlk hin hP hD hA hl hS hN
  have hx := X.1
  have hb := X.2.1
  have hl : lv_has ls 3 [(0, .ref h0), (1, .ref a1), (2, .ref a2)] := hl
  refine lv_aload_n hx hb dX2_init_0 rfl (lv_at hl 0 rfl) ?_
  refine n_obj X gm_396 gm_132 gm_oc hl.1 dX2_init_1 (Nat.le_of_ble_eq_true rfl) (Nat.le_of_ble_eq_true rfl) ?_
  refine lv_aload_n hx hb dX2_init_4 rfl (lv_at hl 0 rfl) ?_
  refine lv_bipush (v := 6) hx hb dX2_init_5 (by decide) ?_
  refine n_newa (ty := .long) (N' := 6) (a0 := (6, .inr (.inl (fun _ => 0)))) X hP hD hS hA 3 rfl rfl gm_310 (fun _ => rfl) (by decide) (by decide) (by decide) (Nat.le_of_ble_eq_true rfl) (Nat.le_of_ble_eq_true rfl) dX2_init_7 (fun q1 H hP hD hS => ?_)
  have hP : va_P D vwCl ([(h0, .inr (2, [.null, .null, .null, .long 0, .long 0])), (q1, .inl (cz 3, 6, .inr (.inl (fun _ => 0))))]) H := hP
  have hD : va_D A ([(h0, .inr (2, [.null, .null, .null, .long 0, .long 0])), (q1, .inl (cz 3, 6, .inr (.inl (fun _ => 0))))]) := hD
  refine n_putF X hin hP hD hS 0 2 qk_2_9 rfl rfl rfl (Nat.le_of_ble_eq_true rfl) dX2_init_9 (fun H locs hP hD hS => ?_)
  have hP : va_P D vwCl ([(h0, .inr (2, [.null, .null, .ref q1, .long 0, .long 0])), (q1, .inl (cz 3, 6, .inr (.inl (fun _ => 0))))]) H := hP
  have hD : va_D A ([(h0, .inr (2, [.null, .null, .ref q1, .long 0, .long 0])), (q1, .inl (cz 3, 6, .inr (.inl (fun _ => 0))))]) := hD
  refine lv_aload_n hx hb dX2_init_12 rfl (lv_at hl 0 rfl) ?_
  refine lv_aload_n hx hb dX2_init_13 rfl (lv_at hl 1 rfl) ?_
  refine n_putF X hin hP hD hS 0 0 qk_2_15 rfl rfl rfl (Nat.le_of_ble_eq_true rfl) dX2_init_14 (fun H locs hP hD hS => ?_)
  have hP : va_P D vwCl ([(h0, .inr (2, [.ref a1, .null, .ref q1, .long 0, .long 0])), (q1, .inl (cz 3, 6, .inr (.inl (fun _ => 0))))]) H := hP
  have hD : va_D A ([(h0, .inr (2, [.ref a1, .null, .ref q1, .long 0, .long 0])), (q1, .inl (cz 3, 6, .inr (.inl (fun _ => 0))))]) := hD
  refine lv_aload_n hx hb dX2_init_17 rfl (lv_at hl 0 rfl) ?_
  refine lv_aload_n hx hb dX2_init_18 rfl (lv_at hl 2 rfl) ?_
  refine n_putF X hin hP hD hS 0 1 qk_2_19 rfl rfl rfl (Nat.le_of_ble_eq_true rfl) dX2_init_19 (fun H locs hP hD hS => ?_)
  have hP : va_P D vwCl ([(h0, .inr (2, [.ref a1, .ref a2, .ref q1, .long 0, .long 0])), (q1, .inl (cz 3, 6, .inr (.inl (fun _ => 0))))]) H := hP
  have hD : va_D A ([(h0, .inr (2, [.ref a1, .ref a2, .ref q1, .long 0, .long 0])), (q1, .inl (cz 3, 6, .inr (.inl (fun _ => 0))))]) := hD
  subst hAe
  exact n_ret (w := fun f => odW cz h0 a1 a2 f) X hr hlk (fun k => ([q1] : List Nat).getD k 0) hP hD hS (Nat.le_of_ble_eq_true rfl) (Nat.le_of_ble_eq_true rfl) dX2_init_22

def guW (cz : Nat → ClassId) (h0 : Nat) (a1 : Nat) (a2 : Nat) (f : Nat → Nat) : va_W := [(h0, .inr (1, [.ref a1, .ref a2, .ref (f 0), .ref (f 1), .int 0, .int 0])), ((f 0), .inl (cz 2, 61, .inl (fun _ => 0))), ((f 1), .inl (cz 0, 1300, .inl (fun _ => 0)))]
set_option maxRecDepth 100000 in
set_option maxHeartbeats 4000000 in
theorem ct_gu {l : Launch} {D : va_G} {cz : Nat → ClassId} (h0 sz : Nat) (a1 : Nat) (a2 : Nat) : CtN (Nat → Nat) l yX1_init cX1_init 3 ({ frames := 1, cells := 2, slots := 1361, locals := 12 } : Room) D cz sz [(h0, .inr (1, [.null, .null, .null, .null, .int 0, .int 0]))] noNW [.ref h0, .ref a1, .ref a2] (fun f => guW cz h0 a1 a2 f) 2 1361 := by
  refine n_entry pn_X1_init rfl (Nat.le_of_ble_eq_true rfl) ?_
  intro p e s m args below meth c ls A hAe X hr hlk hin hP hD hA hl hS hN
  have hx := X.1
  have hb := X.2.1
  have hl : lv_has ls 3 [(0, .ref h0), (1, .ref a1), (2, .ref a2)] := hl
  refine lv_aload_n hx hb dX1_init_0 rfl (lv_at hl 0 rfl) ?_
  refine n_obj X gm_421 gm_132 gm_oc hl.1 dX1_init_1 (Nat.le_of_ble_eq_true rfl) (Nat.le_of_ble_eq_true rfl) ?_
  refine lv_aload_n hx hb dX1_init_4 rfl (lv_at hl 0 rfl) ?_
  refine lv_bipush (v := 61) hx hb dX1_init_5 (by decide) ?_
  refine n_newa (ty := .boolean) (N' := 61) (a0 := (61, .inl (fun _ => 0))) X hP hD hS hA 2 rfl rfl gm_309 (fun _ => rfl) (by decide) (by decide) (by decide) (Nat.le_of_ble_eq_true rfl) (Nat.le_of_ble_eq_true rfl) dX1_init_7 (fun q1 H hP hD hS => ?_)
  have hP : va_P D vwCl ([(h0, .inr (1, [.null, .null, .null, .null, .int 0, .int 0])), (q1, .inl (cz 2, 61, .inl (fun _ => 0)))]) H := hP
  have hD : va_D A ([(h0, .inr (1, [.null, .null, .null, .null, .int 0, .int 0])), (q1, .inl (cz 2, 61, .inl (fun _ => 0)))]) := hD
  refine n_putF X hin hP hD hS 0 2 qk_1_9 rfl rfl rfl (Nat.le_of_ble_eq_true rfl) dX1_init_9 (fun H locs hP hD hS => ?_)
  have hP : va_P D vwCl ([(h0, .inr (1, [.null, .null, .ref q1, .null, .int 0, .int 0])), (q1, .inl (cz 2, 61, .inl (fun _ => 0)))]) H := hP
  have hD : va_D A ([(h0, .inr (1, [.null, .null, .ref q1, .null, .int 0, .int 0])), (q1, .inl (cz 2, 61, .inl (fun _ => 0)))]) := hD
  refine lv_aload_n hx hb dX1_init_12 rfl (lv_at hl 0 rfl) ?_
  refine lv_sipush (v := 1300) hx hb dX1_init_13 (by decide) ?_
  refine n_newa (ty := .int) (N' := 1300) (a0 := (1300, .inl (fun _ => 0))) X hP hD hS hA 0 rfl rfl gm_258 (fun _ => rfl) (by decide) (by decide) (by decide) (Nat.le_of_ble_eq_true rfl) (Nat.le_of_ble_eq_true rfl) dX1_init_16 (fun q2 H hP hD hS => ?_)
  have hP : va_P D vwCl ([(h0, .inr (1, [.null, .null, .ref q1, .null, .int 0, .int 0])), (q1, .inl (cz 2, 61, .inl (fun _ => 0))), (q2, .inl (cz 0, 1300, .inl (fun _ => 0)))]) H := hP
  have hD : va_D A ([(h0, .inr (1, [.null, .null, .ref q1, .null, .int 0, .int 0])), (q1, .inl (cz 2, 61, .inl (fun _ => 0))), (q2, .inl (cz 0, 1300, .inl (fun _ => 0)))]) := hD
  refine n_putF X hin hP hD hS 0 3 qk_1_15 rfl rfl rfl (Nat.le_of_ble_eq_true rfl) dX1_init_18 (fun H locs hP hD hS => ?_)
  have hP : va_P D vwCl ([(h0, .inr (1, [.null, .null, .ref q1, .ref q2, .int 0, .int 0])), (q1, .inl (cz 2, 61, .inl (fun _ => 0))), (q2, .inl (cz 0, 1300, .inl (fun _ => 0)))]) H := hP
  have hD : va_D A ([(h0, .inr (1, [.null, .null, .ref q1, .ref q2, .int 0, .int 0])), (q1, .inl (cz 2, 61, .inl (fun _ => 0))), (q2, .inl (cz 0, 1300, .inl (fun _ => 0)))]) := hD
  refine lv_aload_n hx hb dX1_init_21 rfl (lv_at hl 0 rfl) ?_
  refine lv_aload_n hx hb dX1_init_22 rfl (lv_at hl 1 rfl) ?_
  refine n_putF X hin hP hD hS 0 0 qk_1_19 rfl rfl rfl (Nat.le_of_ble_eq_true rfl) dX1_init_23 (fun H locs hP hD hS => ?_)
  have hP : va_P D vwCl ([(h0, .inr (1, [.ref a1, .null, .ref q1, .ref q2, .int 0, .int 0])), (q1, .inl (cz 2, 61, .inl (fun _ => 0))), (q2, .inl (cz 0, 1300, .inl (fun _ => 0)))]) H := hP
  have hD : va_D A ([(h0, .inr (1, [.ref a1, .null, .ref q1, .ref q2, .int 0, .int 0])), (q1, .inl (cz 2, 61, .inl (fun _ => 0))), (q2, .inl (cz 0, 1300, .inl (fun _ => 0)))]) := hD
  refine lv_aload_n hx hb dX1_init_26 rfl (lv_at hl 0 rfl) ?_
  refine lv_aload_n hx hb dX1_init_27 rfl (lv_at hl 2 rfl) ?_
  refine n_putF X hin hP hD hS 0 1 qk_1_23 rfl rfl rfl (Nat.le_of_ble_eq_true rfl) dX1_init_28 (fun H locs hP hD hS => ?_)
  have hP : va_P D vwCl ([(h0, .inr (1, [.ref a1, .ref a2, .ref q1, .ref q2, .int 0, .int 0])), (q1, .inl (cz 2, 61, .inl (fun _ => 0))), (q2, .inl (cz 0, 1300, .inl (fun _ => 0)))]) H := hP
  have hD : va_D A ([(h0, .inr (1, [.ref a1, .ref a2, .ref q1, .ref q2, .int 0, .int 0])), (q1, .inl (cz 2, 61, .inl (fun _ => 0))), (q2, .inl (cz 0, 1300, .inl (fun _ => 0)))]) := hD
  subst hAe
  exact n_ret (w := fun f => guW cz h0 a1 a2 f) X hr hlk (fun k => ([q1, q2] : List Nat).getD k 0) hP hD hS (Nat.le_of_ble_eq_true rfl) (Nat.le_of_ble_eq_true rfl) dX1_init_31
