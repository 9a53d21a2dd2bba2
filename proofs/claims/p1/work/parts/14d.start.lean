set_option maxRecDepth 100000 in
set_option maxHeartbeats 4000000 in
/-- the law's head with a number above the script's length less 6: it ends -/
theorem law_exit {p : Program} {l : Launch} {e : Env} {s : State} {m : MethodId} {below : List Frame} {meth : Method} {c : Code} {D : va_G} {cz : Nat → ClassId} {h : Nat → Nat} {b L : Nat} {xs : Nat → Int32} {H : Heap} {locs : List Loc} {ls : Array Slot} (X : Cxt p s m c #[Value.ref b] cL_law 4 "UncutTaleLaw" D cz) (hr : meth.sig.returnType = ret) (hlocks : meth.locks = false) (hX : va_X b L xs s s.heap) (hbl : b < s.heap.size) (hge : ∀ q, hA h q → s.heap.size ≤ q) (hS : va_S (hA h) s.heap H locs) {x3 : Int32} (hx3 : Int32.ofNat L - 6 < x3) (hl : lv_has ls 4 [(3, .int x3), (2, .ref (h 96)), (1, .ref (h 0)), (0, .ref b)]) : W p l e room_1 s m #[Value.ref b] below meth c H locs 600000 7302250 (lw_Z below #[Value.ref b] s) (F0 m 18 ls []) := by
  have hx := X.1
  have hb := X.2.1
  have hbA : ¬ hA h b := fun q => Nat.not_le.mpr hbl (hge b q)
  refine lv_iload_n hx hb dL_law_18 rfl (lv_at hl 0 rfl) ?_
  refine lv_aload_n hx hb dL_law_19 rfl (lv_at hl 3 rfl) ?_
  refine va_slen hx hb hX hbl hbA hS dL_law_20 ?_
  refine lv_bipush (v := 6) hx hb dL_law_21 (by decide) ?_
  refine lv_isub hx hb dL_law_23 ?_
  refine lv_icmp_gt (tgt := 2203) hx hb dL_law_24 (by decide) (fun _ => ?_) (fun c => absurd hx3 c)
  refine lv_iconst (v := 1) hx hb dL_law_2203 (by decide) ?_
  refine va_forget (fun q hq => hge _ (hS.2.2 q hq)) ?_
  exact lw_ret hx hb hr hlocks dL_law_2204
set_option maxRecDepth 100000 in
set_option maxHeartbeats 4000000 in
theorem law_body {p : Program} {l : Launch} {e : Env} {s : State} {m : MethodId} {below : List Frame} {meth : Method} {c : Code} {D : va_G} {cz : Nat → ClassId} {h : Nat → Nat} {b : Nat} {xs : Nat → Int32} {H : Heap} {locs : List Loc} {ls : Array Slot} (X : Cxt p s m c #[Value.ref b] cL_law 4 "UncutTaleLaw" D cz) (hr : meth.sig.returnType = ret) (hlocks : meth.locks = false) (hX : va_X b 6 xs s s.heap) (hbl : b < s.heap.size) (hge : ∀ q, hA h q → s.heap.size ≤ q) (hS : va_S (hA h) s.heap H locs) {i : Nat → Nat → Int32} {g : Nat → Nat → Int64} (hRF : Rg rF i) (hT : TH D h cz i g H) (hl : lv_has ls 4 [(3, .int 0), (2, .ref (h 96)), (1, .ref (h 0)), (0, .ref b)]) : W p l e room_1 s m #[Value.ref b] below meth c H locs 600000 7302250 (lw_Z below #[Value.ref b] s) (F0 m 18 ls []) := by
  have hx := X.1
  have hb := X.2.1
  have hbA : ¬ hA h b := fun q => Nat.not_le.mpr hbl (hge b q)
  have hRL : Rg rL i := Rg_mono hRF mono_FL ln_hi
  have hRM : Rg rM i := Rg_mono hRF mono_FM ln_hi
  have hRN : Rg rN i := Rg_mono hRF mono_FN ln_hi
  have hE : ∀ (H : Heap) (locs : List Loc) (ls : Array Slot), va_S (hA h) s.heap H locs → lv_has ls 4 [(3, .int 0), (2, .ref (h 96)), (1, .ref (h 0)), (0, .ref b)] → W p l e room_1 s m #[Value.ref b] below meth c H locs 600000 7302250 (lw_Z below #[Value.ref b] s) (F0 m 2197 ls []) := by
    intro H locs ls hS hl
    refine lv_iinc (v := 6) (lv' := [(3, .int 6), (2, .ref (h 96)), (1, .ref (h 0)), (0, .ref b)]) hx hb dL_law_2197 hl (k := 0) rfl (by decide) (by decide) rfl (fun ls hl => ?_)
    refine lv_goto (tgt := 18) hx hb dL_law_2200 (by decide) ?_
    exact law_exit X hr hlocks hX hbl hge hS (by decide) hl
  refine lv_iload_n hx hb dL_law_18 rfl (lv_at hl 0 rfl) ?_
  refine lv_aload_n hx hb dL_law_19 rfl (lv_at hl 3 rfl) ?_
  refine va_slen hx hb hX hbl hbA hS dL_law_20 ?_
  refine lv_bipush (v := 6) hx hb dL_law_21 (by decide) ?_
  refine lv_isub hx hb dL_law_23 ?_
  refine lv_icmp_gt (tgt := 2203) hx hb dL_law_24 (by decide) (fun c => absurd c (by decide)) (fun _ => ?_)
  refine lv_aload_n hx hb dL_law_27 rfl (lv_at hl 3 rfl) ?_
  refine lv_iload_n hx hb dL_law_28 rfl (lv_at hl 0 rfl) ?_
  refine va_sld hx hb hX hbl hbA hS (i := 0) (v_in (rg_k (by decide) : rg 0 0 0) (by decide)) dL_law_29 ?_
  refine lv_bipush (v := 127) hx hb dL_law_30 (by decide) ?_
  refine q_iand hx hb dL_law_32 (fun x ex => ?_)
  have hx0 := rg_and127 ex
  rcases Int.lt_or_le 73 x.toInt with hd | hd
  · refine lv_tableOut (tgt := 2197) hx hb dL_law_33 (Or.inr hd) (by decide) ?_
    exact hE _ _ _ hS hl
  · obtain ⟨n, hn⟩ := Int.eq_ofNat_of_zero_le hx0.1
    have hn73 : n ≤ 73 := by omega
    match n, hn, hn73 with
    | 0, hn, _ => exact lv_tableIn (tgt := 344) (off := 311) hx hb dL_law_33 (by omega) (by omega) (by rw [hn]; rfl) (by decide) (law_0 X hRF hRL hRM hRN hX hbl hbA hT hS hl hE)
    | 1, hn, _ => exact lv_tableIn (tgt := 407) (off := 374) hx hb dL_law_33 (by omega) (by omega) (by rw [hn]; rfl) (by decide) (law_1 X hRF hRL hRM hRN hX hbl hbA hT hS hl hE)
    | 2, hn, _ => exact lv_tableIn (tgt := 430) (off := 397) hx hb dL_law_33 (by omega) (by omega) (by rw [hn]; rfl) (by decide) (law_2 X hRF hRL hRM hRN hX hbl hbA hT hS hl hE)
    | 3, hn, _ => exact lv_tableIn (tgt := 443) (off := 410) hx hb dL_law_33 (by omega) (by omega) (by rw [hn]; rfl) (by decide) (law_3 X hRF hRL hRM hRN hX hbl hbA hT hS hl hE)
    | 4, hn, _ => exact lv_tableIn (tgt := 466) (off := 433) hx hb dL_law_33 (by omega) (by omega) (by rw [hn]; rfl) (by decide) (law_4 X hRF hRL hRM hRN hX hbl hbA hT hS hl hE)
    | 5, hn, _ => exact lv_tableIn (tgt := 499) (off := 466) hx hb dL_law_33 (by omega) (by omega) (by rw [hn]; rfl) (by decide) (law_5 X hRF hRL hRM hRN hX hbl hbA hT hS hl hE)
    | 6, hn, _ => exact lv_tableIn (tgt := 522) (off := 489) hx hb dL_law_33 (by omega) (by omega) (by rw [hn]; rfl) (by decide) (law_6 X hRF hRL hRM hRN hX hbl hbA hT hS hl hE)
    | 7, hn, _ => exact lv_tableIn (tgt := 555) (off := 522) hx hb dL_law_33 (by omega) (by omega) (by rw [hn]; rfl) (by decide) (law_7 X hRF hRL hRM hRN hX hbl hbA hT hS hl hE)
    | 8, hn, _ => exact lv_tableIn (tgt := 588) (off := 555) hx hb dL_law_33 (by omega) (by omega) (by rw [hn]; rfl) (by decide) (law_8 X hRF hRL hRM hRN hX hbl hbA hT hS hl hE)
    | 9, hn, _ => exact lv_tableIn (tgt := 611) (off := 578) hx hb dL_law_33 (by omega) (by omega) (by rw [hn]; rfl) (by decide) (law_9 X hRF hRL hRM hRN hX hbl hbA hT hS hl hE)
    | 10, hn, _ => exact lv_tableIn (tgt := 634) (off := 601) hx hb dL_law_33 (by omega) (by omega) (by rw [hn]; rfl) (by decide) (law_10 X hRF hRL hRM hRN hX hbl hbA hT hS hl hE)
    | 11, hn, _ => exact lv_tableIn (tgt := 657) (off := 624) hx hb dL_law_33 (by omega) (by omega) (by rw [hn]; rfl) (by decide) (law_11 X hRF hRL hRM hRN hX hbl hbA hT hS hl hE)
    | 12, hn, _ => exact lv_tableIn (tgt := 680) (off := 647) hx hb dL_law_33 (by omega) (by omega) (by rw [hn]; rfl) (by decide) (law_12 X hRF hRL hRM hRN hX hbl hbA hT hS hl hE)
    | 13, hn, _ => exact lv_tableIn (tgt := 703) (off := 670) hx hb dL_law_33 (by omega) (by omega) (by rw [hn]; rfl) (by decide) (law_13 X hRF hRL hRM hRN hX hbl hbA hT hS hl hE)
    | 14, hn, _ => exact lv_tableIn (tgt := 716) (off := 683) hx hb dL_law_33 (by omega) (by omega) (by rw [hn]; rfl) (by decide) (law_14 X hRF hRL hRM hRN hX hbl hbA hT hS hl hE)
    | 15, hn, _ => exact lv_tableIn (tgt := 749) (off := 716) hx hb dL_law_33 (by omega) (by omega) (by rw [hn]; rfl) (by decide) (law_15 X hRF hRL hRM hRN hX hbl hbA hT hS hl hE)
    | 16, hn, _ => exact lv_tableIn (tgt := 772) (off := 739) hx hb dL_law_33 (by omega) (by omega) (by rw [hn]; rfl) (by decide) (law_16 X hRF hRL hRM hRN hX hbl hbA hT hS hl hE)
    | 17, hn, _ => exact lv_tableIn (tgt := 795) (off := 762) hx hb dL_law_33 (by omega) (by omega) (by rw [hn]; rfl) (by decide) (law_17 X hRF hRL hRM hRN hX hbl hbA hT hS hl hE)
    | 18, hn, _ => exact lv_tableIn (tgt := 818) (off := 785) hx hb dL_law_33 (by omega) (by omega) (by rw [hn]; rfl) (by decide) (law_18 X hRF hRL hRM hRN hX hbl hbA hT hS hl hE)
    | 19, hn, _ => exact lv_tableIn (tgt := 841) (off := 808) hx hb dL_law_33 (by omega) (by omega) (by rw [hn]; rfl) (by decide) (law_19 X hRF hRL hRM hRN hX hbl hbA hT hS hl hE)
    | 20, hn, _ => exact lv_tableIn (tgt := 864) (off := 831) hx hb dL_law_33 (by omega) (by omega) (by rw [hn]; rfl) (by decide) (law_20 X hRF hRL hRM hRN hX hbl hbA hT hS hl hE)
    | 21, hn, _ => exact lv_tableIn (tgt := 887) (off := 854) hx hb dL_law_33 (by omega) (by omega) (by rw [hn]; rfl) (by decide) (law_21 X hRF hRL hRM hRN hX hbl hbA hT hS hl hE)
    | 22, hn, _ => exact lv_tableIn (tgt := 900) (off := 867) hx hb dL_law_33 (by omega) (by omega) (by rw [hn]; rfl) (by decide) (law_22 X hRF hRL hRM hRN hX hbl hbA hT hS hl hE)
    | 23, hn, _ => exact lv_tableIn (tgt := 913) (off := 880) hx hb dL_law_33 (by omega) (by omega) (by rw [hn]; rfl) (by decide) (law_23 X hRF hRL hRM hRN hX hbl hbA hT hS hl hE)
    | 24, hn, _ => exact lv_tableIn (tgt := 926) (off := 893) hx hb dL_law_33 (by omega) (by omega) (by rw [hn]; rfl) (by decide) (law_24 X hRF hRL hRM hRN hX hbl hbA hT hS hl hE)
    | 25, hn, _ => exact lv_tableIn (tgt := 939) (off := 906) hx hb dL_law_33 (by omega) (by omega) (by rw [hn]; rfl) (by decide) (law_25 X hRF hRL hRM hRN hX hbl hbA hT hS hl hE)
    | 26, hn, _ => exact lv_tableIn (tgt := 962) (off := 929) hx hb dL_law_33 (by omega) (by omega) (by rw [hn]; rfl) (by decide) (law_26 X hRF hRL hRM hRN hX hbl hbA hT hS hl hE)
    | 27, hn, _ => exact lv_tableIn (tgt := 975) (off := 942) hx hb dL_law_33 (by omega) (by omega) (by rw [hn]; rfl) (by decide) (law_27 X hRF hRL hRM hRN hX hbl hbA hT hS hl hE)
    | 28, hn, _ => exact lv_tableIn (tgt := 998) (off := 965) hx hb dL_law_33 (by omega) (by omega) (by rw [hn]; rfl) (by decide) (law_28 X hRF hRL hRM hRN hX hbl hbA hT hS hl hE)
    | 29, hn, _ => exact lv_tableIn (tgt := 1011) (off := 978) hx hb dL_law_33 (by omega) (by omega) (by rw [hn]; rfl) (by decide) (law_29 X hRF hRL hRM hRN hX hbl hbA hT hS hl hE)
    | 30, hn, _ => exact lv_tableIn (tgt := 1024) (off := 991) hx hb dL_law_33 (by omega) (by omega) (by rw [hn]; rfl) (by decide) (law_30 X hRF hRL hRM hRN hX hbl hbA hT hS hl hE)
    | 31, hn, _ => exact lv_tableIn (tgt := 1037) (off := 1004) hx hb dL_law_33 (by omega) (by omega) (by rw [hn]; rfl) (by decide) (law_31 X hRF hRL hRM hRN hX hbl hbA hT hS hl hE)
    | 32, hn, _ => exact lv_tableIn (tgt := 1060) (off := 1027) hx hb dL_law_33 (by omega) (by omega) (by rw [hn]; rfl) (by decide) (law_32 X hRF hRL hRM hRN hX hbl hbA hT hS hl hE)
    | 33, hn, _ => exact lv_tableIn (tgt := 1083) (off := 1050) hx hb dL_law_33 (by omega) (by omega) (by rw [hn]; rfl) (by decide) (law_33 X hRF hRL hRM hRN hX hbl hbA hT hS hl hE)
    | 34, hn, _ => exact lv_tableIn (tgt := 1096) (off := 1063) hx hb dL_law_33 (by omega) (by omega) (by rw [hn]; rfl) (by decide) (law_34 X hRF hRL hRM hRN hX hbl hbA hT hS hl hE)
    | 35, hn, _ => exact lv_tableIn (tgt := 1109) (off := 1076) hx hb dL_law_33 (by omega) (by omega) (by rw [hn]; rfl) (by decide) (law_35 X hRF hRL hRM hRN hX hbl hbA hT hS hl hE)
    | 36, hn, _ => exact lv_tableIn (tgt := 1132) (off := 1099) hx hb dL_law_33 (by omega) (by omega) (by rw [hn]; rfl) (by decide) (law_36 X hRF hRL hRM hRN hX hbl hbA hT hS hl hE)
    | 37, hn, _ => exact lv_tableIn (tgt := 1145) (off := 1112) hx hb dL_law_33 (by omega) (by omega) (by rw [hn]; rfl) (by decide) (law_37 X hRF hRL hRM hRN hX hbl hbA hT hS hl hE)
    | 38, hn, _ => exact lv_tableIn (tgt := 1158) (off := 1125) hx hb dL_law_33 (by omega) (by omega) (by rw [hn]; rfl) (by decide) (law_38 X hRF hRL hRM hRN hX hbl hbA hT hS hl hE)
    | 39, hn, _ => exact lv_tableIn (tgt := 1171) (off := 1138) hx hb dL_law_33 (by omega) (by omega) (by rw [hn]; rfl) (by decide) (law_39 X hRF hRL hRM hRN hX hbl hbA hT hS hl hE)
    | 40, hn, _ => exact lv_tableIn (tgt := 1194) (off := 1161) hx hb dL_law_33 (by omega) (by omega) (by rw [hn]; rfl) (by decide) (law_40 X hRF hRL hRM hRN hX hbl hbA hT hS hl hE)
    | 41, hn, _ => exact lv_tableIn (tgt := 1227) (off := 1194) hx hb dL_law_33 (by omega) (by omega) (by rw [hn]; rfl) (by decide) (law_41 X hRF hRL hRM hRN hX hbl hbA hT hS hl hE)
    | 42, hn, _ => exact lv_tableIn (tgt := 1250) (off := 1217) hx hb dL_law_33 (by omega) (by omega) (by rw [hn]; rfl) (by decide) (law_42 X hRF hRL hRM hRN hX hbl hbA hT hS hl hE)
    | 43, hn, _ => exact lv_tableIn (tgt := 1283) (off := 1250) hx hb dL_law_33 (by omega) (by omega) (by rw [hn]; rfl) (by decide) (law_43 X hRF hRL hRM hRN hX hbl hbA hT hS hl hE)
    | 44, hn, _ => exact lv_tableIn (tgt := 1306) (off := 1273) hx hb dL_law_33 (by omega) (by omega) (by rw [hn]; rfl) (by decide) (law_44 X hRF hRL hRM hRN hX hbl hbA hT hS hl hE)
    | 45, hn, _ => exact lv_tableIn (tgt := 1339) (off := 1306) hx hb dL_law_33 (by omega) (by omega) (by rw [hn]; rfl) (by decide) (law_45 X hRF hRL hRM hRN hX hbl hbA hT hS hl hE)
    | 46, hn, _ => exact lv_tableIn (tgt := 1372) (off := 1339) hx hb dL_law_33 (by omega) (by omega) (by rw [hn]; rfl) (by decide) (law_46 X hRF hRL hRM hRN hX hbl hbA hT hS hl hE)
    | 47, hn, _ => exact lv_tableIn (tgt := 1405) (off := 1372) hx hb dL_law_33 (by omega) (by omega) (by rw [hn]; rfl) (by decide) (law_47 X hRF hRL hRM hRN hX hbl hbA hT hS hl hE)
    | 48, hn, _ => exact lv_tableIn (tgt := 1438) (off := 1405) hx hb dL_law_33 (by omega) (by omega) (by rw [hn]; rfl) (by decide) (law_48 X hRF hRL hRM hRN hX hbl hbA hT hS hl hE)
    | 49, hn, _ => exact lv_tableIn (tgt := 1471) (off := 1438) hx hb dL_law_33 (by omega) (by omega) (by rw [hn]; rfl) (by decide) (law_49 X hRF hRL hRM hRN hX hbl hbA hT hS hl hE)
    | 50, hn, _ => exact lv_tableIn (tgt := 1494) (off := 1461) hx hb dL_law_33 (by omega) (by omega) (by rw [hn]; rfl) (by decide) (law_50 X hRF hRL hRM hRN hX hbl hbA hT hS hl hE)
    | 51, hn, _ => exact lv_tableIn (tgt := 1517) (off := 1484) hx hb dL_law_33 (by omega) (by omega) (by rw [hn]; rfl) (by decide) (law_51 X hRF hRL hRM hRN hX hbl hbA hT hS hl hE)
    | 52, hn, _ => exact lv_tableIn (tgt := 1530) (off := 1497) hx hb dL_law_33 (by omega) (by omega) (by rw [hn]; rfl) (by decide) (law_52 X hRF hRL hRM hRN hX hbl hbA hT hS hl hE)
    | 53, hn, _ => exact lv_tableIn (tgt := 1543) (off := 1510) hx hb dL_law_33 (by omega) (by omega) (by rw [hn]; rfl) (by decide) (law_53 X hRF hRL hRM hRN hX hbl hbA hT hS hl hE)
    | 54, hn, _ => exact lv_tableIn (tgt := 1556) (off := 1523) hx hb dL_law_33 (by omega) (by omega) (by rw [hn]; rfl) (by decide) (law_54 X hRF hRL hRM hRN hX hbl hbA hT hS hl hE)
    | 55, hn, _ => exact lv_tableIn (tgt := 1569) (off := 1536) hx hb dL_law_33 (by omega) (by omega) (by rw [hn]; rfl) (by decide) (law_55 X hRF hRL hRM hRN hX hbl hbA hT hS hl hE)
    | 56, hn, _ => exact lv_tableIn (tgt := 1582) (off := 1549) hx hb dL_law_33 (by omega) (by omega) (by rw [hn]; rfl) (by decide) (law_56 X hRF hRL hRM hRN hX hbl hbA hT hS hl hE)
    | 57, hn, _ => exact lv_tableIn (tgt := 1605) (off := 1572) hx hb dL_law_33 (by omega) (by omega) (by rw [hn]; rfl) (by decide) (law_57 X hRF hRL hRM hRN hX hbl hbA hT hS hl hE)
    | 58, hn, _ => exact lv_tableIn (tgt := 1638) (off := 1605) hx hb dL_law_33 (by omega) (by omega) (by rw [hn]; rfl) (by decide) (law_58 X hRF hRL hRM hRN hX hbl hbA hT hS hl hE)
    | 59, hn, _ => exact lv_tableIn (tgt := 1691) (off := 1658) hx hb dL_law_33 (by omega) (by omega) (by rw [hn]; rfl) (by decide) (law_59 X hRF hRL hRM hRN hX hbl hbA hT hS hl hE)
    | 60, hn, _ => exact lv_tableIn (tgt := 1724) (off := 1691) hx hb dL_law_33 (by omega) (by omega) (by rw [hn]; rfl) (by decide) (law_60 X hRF hRL hRM hRN hX hbl hbA hT hS hl hE)
    | 61, hn, _ => exact lv_tableIn (tgt := 1748) (off := 1715) hx hb dL_law_33 (by omega) (by omega) (by rw [hn]; rfl) (by decide) (law_61 X hRF hRL hRM hRN hX hbl hbA hT hS hl hE)
    | 62, hn, _ => exact lv_tableIn (tgt := 1781) (off := 1748) hx hb dL_law_33 (by omega) (by omega) (by rw [hn]; rfl) (by decide) (law_62 X hRF hRL hRM hRN hX hbl hbA hT hS hl hE)
    | 63, hn, _ => exact lv_tableIn (tgt := 1814) (off := 1781) hx hb dL_law_33 (by omega) (by omega) (by rw [hn]; rfl) (by decide) (law_63 X hRF hRL hRM hRN hX hbl hbA hT hS hl hE)
    | 64, hn, _ => exact lv_tableIn (tgt := 1827) (off := 1794) hx hb dL_law_33 (by omega) (by omega) (by rw [hn]; rfl) (by decide) (law_64 X hRF hRL hRM hRN hX hbl hbA hT hS hl hE)
    | 65, hn, _ => exact lv_tableIn (tgt := 1840) (off := 1807) hx hb dL_law_33 (by omega) (by omega) (by rw [hn]; rfl) (by decide) (law_65 X hRF hRL hRM hRN hX hbl hbA hT hS hl hE)
    | 66, hn, _ => exact lv_tableIn (tgt := 1873) (off := 1840) hx hb dL_law_33 (by omega) (by omega) (by rw [hn]; rfl) (by decide) (law_66 X hRF hRL hRM hRN hX hbl hbA hT hS hl hE)
    | 67, hn, _ => exact lv_tableIn (tgt := 1916) (off := 1883) hx hb dL_law_33 (by omega) (by omega) (by rw [hn]; rfl) (by decide) (law_67 X hRF hRL hRM hRN hX hbl hbA hT hS hl hE)
    | 68, hn, _ => exact lv_tableIn (tgt := 1949) (off := 1916) hx hb dL_law_33 (by omega) (by omega) (by rw [hn]; rfl) (by decide) (law_68 X hRF hRL hRM hRN hX hbl hbA hT hS hl hE)
    | 69, hn, _ => exact lv_tableIn (tgt := 1972) (off := 1939) hx hb dL_law_33 (by omega) (by omega) (by rw [hn]; rfl) (by decide) (law_69 X hRF hRL hRM hRN hX hbl hbA hT hS hl hE)
    | 70, hn, _ => exact lv_tableIn (tgt := 1995) (off := 1962) hx hb dL_law_33 (by omega) (by omega) (by rw [hn]; rfl) (by decide) (law_70 X hRF hRL hRM hRN hX hbl hbA hT hS hl hE)
    | 71, hn, _ => exact lv_tableIn (tgt := 2018) (off := 1985) hx hb dL_law_33 (by omega) (by omega) (by rw [hn]; rfl) (by decide) (law_71 X hRF hRL hRM hRN hX hbl hbA hT hS hl hE)
    | 72, hn, _ => exact lv_tableIn (tgt := 2061) (off := 2028) hx hb dL_law_33 (by omega) (by omega) (by rw [hn]; rfl) (by decide) (law_72 X hRF hRL hRM hRN hX hbl hbA hT hS hl hE)
    | 73, hn, _ => exact lv_tableIn (tgt := 2134) (off := 2101) hx hb dL_law_33 (by omega) (by omega) (by rw [hn]; rfl) (by decide) (law_73 X hRF hRL hRM hRN hX hbl hbA hT hS hl hE)
    | n + 74, _, h9 => exact absurd h9 (by omega)
