set_option maxRecDepth 100000 in
set_option maxHeartbeats 4000000 in
/-- the law's head with a number above the script's length less 6: it ends -/
theorem law_exit {p : Program} {l : Launch} {e : Env} {s : State} {m : MethodId} {below : List Frame} {meth : Method} {c : Code} {D : va_G} {cz : Nat → ClassId} {h : Nat → Nat} {b L : Nat} {xs : Nat → Int32} {H : Heap} {locs : List Loc} {ls : Array Slot} (X : Cxt p s m c #[Value.ref b] cL_law 4 "UncutTaleLaw" D cz) (hr : meth.sig.returnType = ret) (hlocks : meth.locks = false) (hX : va_X b L xs s s.heap) (hbl : b < s.heap.size) (hge : ∀ q, hA h q → s.heap.size ≤ q) (hS : va_S (hA h) s.heap H locs) {x3 : Int32} (hx3 : Int32.ofNat L - 6 < x3) (hl : lv_has ls 4 [(3, .int x3), (2, .ref (h 96)), (1, .ref (h 0)), (0, .ref b)]) : W p l e room_1 s m #[Value.ref b] below meth c H locs 600000 7302250 (lw_Z below #[Value.ref b] s) (F0 m 18 ls []) := by
  have hx := X.1
  have hb := X.2.1
  have hbA : ¬ hA h b := fun q => Nat.not_le.mpr hbl (hge b q)
  refine lv_iload_n hx hb dL_law_18 rfl (lv_at hl 0 rfl) ?_
  refine lv_aload_n hx hb dL_law_19 rfl (lv_at hl 3 rfl) ?_
  refine va_slen hx hb hX hbl hbA hS dL_law_20 ?_
  refine lv_bipush (v := 6) hx hb dL_law_21 (by decide) ?_
  refine lv_isub hx hb dL_law_23 ?_
  refine lv_icmp_gt (tgt := 2202) hx hb dL_law_24 (by decide) (fun _ => ?_) (fun c => absurd hx3 c)
  refine lv_iconst (v := 1) hx hb dL_law_2202 (by decide) ?_
  refine va_forget (fun q hq => hge _ (hS.2.2 q hq)) ?_
  exact lw_ret hx hb hr hlocks dL_law_2203
set_option maxRecDepth 100000 in
set_option maxHeartbeats 4000000 in
theorem law_loop {p : Program} {l : Launch} {e : Env} {s : State} {m : MethodId} {below : List Frame} {meth : Method} {c : Code} {D : va_G} {cz : Nat → ClassId} {h : Nat → Nat} {z : EZ} {b L : Nat} {xs : Nat → Int32} (X : Cxt p s m c #[Value.ref b] cL_law 4 "UncutTaleLaw" D cz) (Y : EV h z s s.heap) (hr : meth.sig.returnType = ret) (hlocks : meth.locks = false) (hX : va_X b L xs s s.heap) (hbl : b < s.heap.size) (hge : ∀ q, hA h q → s.heap.size ≤ q) (hL : L ≤ 3072) : ∀ (n : Nat) (x3 : Int32) (i : Nat → Nat → Int32) (g : Nat → Nat → Int64) (H : Heap) (locs : List Loc) (ls : Array Slot), rg 0 3072 x3 → Rg rA i → rel74 i → TH D h cz i g H → va_S (hA h) s.heap H locs → lv_has ls 4 [(3, .int x3), (2, .ref (h 96)), (1, .ref (h 0)), (0, .ref b)] → (3078 - x3.toInt).toNat < n → W p l e room_1 s m #[Value.ref b] below meth c H locs 600000 7302250 (lw_Z below #[Value.ref b] s) (F0 m 18 ls []) := by
  have hx := X.1
  have hb := X.2.1
  have hbA : ¬ hA h b := fun q => Nat.not_le.mpr hbl (hge b q)
  intro n
  induction n with
  | zero => intro x3 i g H locs ls _ _ _ _ _ _ hm; exact absurd hm (Nat.not_lt_zero _)
  | succ n ih =>
    intro x3 i g H locs ls hx3 hR hrel hT hS hl hm
    by_cases hc : Int32.ofNat L - 6 < x3
    · exact law_exit X hr hlocks hX hbl hge hS hc hl
    have hc1 := i_nlt hc
    rw [L6 hL] at hc1
    have hx0 := hx3.1
    have hL3 : x3.toInt + 6 ≤ (L : Int) := by omega
    have hx4 : rg 0 3066 x3 := ⟨hx0, by omega⟩
    have hE : ∀ (i : Nat → Nat → Int32) (g : Nat → Nat → Int64) (H : Heap) (locs : List Loc) (ls : Array Slot), Rg rA i → rel74 i → TH D h cz i g H → va_S (hA h) s.heap H locs → lv_has ls 4 [(3, .int x3), (2, .ref (h 96)), (1, .ref (h 0)), (0, .ref b)] → W p l e room_1 s m #[Value.ref b] below meth c H locs 600000 7302250 (lw_Z below #[Value.ref b] s) (F0 m 2196 ls []) := by
      intro i g H locs ls hR hrel hT hS hl
      obtain ⟨y, ey⟩ : ∃ y : Int32, y = x3 + 6 := ⟨_, rfl⟩
      refine lv_iinc (v := y) (lv' := [(3, .int y), (2, .ref (h 96)), (1, .ref (h 0)), (0, .ref b)]) hx hb dL_law_2196 hl (k := 0) rfl (by rw [ey]; rfl) (by decide) rfl (fun ls hl => ?_)
      refine lv_goto (tgt := 18) hx hb dL_law_2199 (by decide) ?_
      obtain ⟨hy, ay⟩ := rg_add 6 3072 ey hx4 (rg_k (by decide) : rg 6 6 6) (by decide)
      replace ay : y.toInt = x3.toInt + 6 := ay
      exact ih y i g H locs ls (rg_w hy (by decide)) hR hrel hT hS hl (by omega)
    refine lv_iload_n hx hb dL_law_18 rfl (lv_at hl 0 rfl) ?_
    refine lv_aload_n hx hb dL_law_19 rfl (lv_at hl 3 rfl) ?_
    refine va_slen hx hb hX hbl hbA hS dL_law_20 ?_
    refine lv_bipush (v := 6) hx hb dL_law_21 (by decide) ?_
    refine lv_isub hx hb dL_law_23 ?_
    refine lv_icmp_gt (tgt := 2202) hx hb dL_law_24 (by decide) (fun c => absurd c hc) (fun _ => ?_)
    refine lv_aload_n hx hb dL_law_27 rfl (lv_at hl 3 rfl) ?_
    refine lv_iload_n hx hb dL_law_28 rfl (lv_at hl 0 rfl) ?_
    refine va_sld hx hb hX hbl hbA hS (i := x3) (sl_in0 hx4 hL3) dL_law_29 ?_
    refine lv_bipush (v := 127) hx hb dL_law_30 (by decide) ?_
    refine q_iand hx hb dL_law_32 (fun x ex => ?_)
    have hx0 := rg_and127 ex
    rcases Int.lt_or_le 73 x.toInt with hd | hd
    · refine lv_tableOut (tgt := 2196) hx hb dL_law_33 (Or.inr hd) (by decide) ?_
      exact hE _ _ _ _ _ hR hrel hT hS hl
    · obtain ⟨n, hn⟩ := Int.eq_ofNat_of_zero_le hx0.1
      have hn73 : n ≤ 73 := by omega
      match n, hn, hn73 with
      | 0, hn, _ => exact lv_tableIn (tgt := 344) (off := 311) hx hb dL_law_33 (by omega) (by omega) (by rw [hn]; rfl) (by decide) (law_0 X Y hR hX hbl hbA hT hS hx4 hL3 hl hrel hE)
      | 1, hn, _ => exact lv_tableIn (tgt := 407) (off := 374) hx hb dL_law_33 (by omega) (by omega) (by rw [hn]; rfl) (by decide) (law_1 X Y hR hX hbl hbA hT hS hx4 hL3 hl hrel hE)
      | 2, hn, _ => exact lv_tableIn (tgt := 430) (off := 397) hx hb dL_law_33 (by omega) (by omega) (by rw [hn]; rfl) (by decide) (law_2 X Y hR hX hbl hbA hT hS hx4 hL3 hl hrel hE)
      | 3, hn, _ => exact lv_tableIn (tgt := 443) (off := 410) hx hb dL_law_33 (by omega) (by omega) (by rw [hn]; rfl) (by decide) (law_3 X Y hR hX hbl hbA hT hS hx4 hL3 hl hrel hE)
      | 4, hn, _ => exact lv_tableIn (tgt := 466) (off := 433) hx hb dL_law_33 (by omega) (by omega) (by rw [hn]; rfl) (by decide) (law_4 X Y hR hX hbl hbA hT hS hx4 hL3 hl hrel hE)
      | 5, hn, _ => exact lv_tableIn (tgt := 499) (off := 466) hx hb dL_law_33 (by omega) (by omega) (by rw [hn]; rfl) (by decide) (law_5 X Y hR hX hbl hbA hT hS hx4 hL3 hl hrel hE)
      | 6, hn, _ => exact lv_tableIn (tgt := 522) (off := 489) hx hb dL_law_33 (by omega) (by omega) (by rw [hn]; rfl) (by decide) (law_6 X Y hR hX hbl hbA hT hS hx4 hL3 hl hrel hE)
      | 7, hn, _ => exact lv_tableIn (tgt := 555) (off := 522) hx hb dL_law_33 (by omega) (by omega) (by rw [hn]; rfl) (by decide) (law_7 X Y hR hX hbl hbA hT hS hx4 hL3 hl hrel hE)
      | 8, hn, _ => exact lv_tableIn (tgt := 588) (off := 555) hx hb dL_law_33 (by omega) (by omega) (by rw [hn]; rfl) (by decide) (law_8 X Y hR hX hbl hbA hT hS hx4 hL3 hl hrel hE)
      | 9, hn, _ => exact lv_tableIn (tgt := 611) (off := 578) hx hb dL_law_33 (by omega) (by omega) (by rw [hn]; rfl) (by decide) (law_9 X Y hR hX hbl hbA hT hS hx4 hL3 hl hrel hE)
      | 10, hn, _ => exact lv_tableIn (tgt := 634) (off := 601) hx hb dL_law_33 (by omega) (by omega) (by rw [hn]; rfl) (by decide) (law_10 X Y hR hX hbl hbA hT hS hx4 hL3 hl hrel hE)
      | 11, hn, _ => exact lv_tableIn (tgt := 657) (off := 624) hx hb dL_law_33 (by omega) (by omega) (by rw [hn]; rfl) (by decide) (law_11 X Y hR hX hbl hbA hT hS hx4 hL3 hl hrel hE)
      | 12, hn, _ => exact lv_tableIn (tgt := 680) (off := 647) hx hb dL_law_33 (by omega) (by omega) (by rw [hn]; rfl) (by decide) (law_12 X Y hR hX hbl hbA hT hS hx4 hL3 hl hrel hE)
      | 13, hn, _ => exact lv_tableIn (tgt := 703) (off := 670) hx hb dL_law_33 (by omega) (by omega) (by rw [hn]; rfl) (by decide) (law_13 X Y hR hX hbl hbA hT hS hx4 hL3 hl hrel hE)
      | 14, hn, _ => exact lv_tableIn (tgt := 716) (off := 683) hx hb dL_law_33 (by omega) (by omega) (by rw [hn]; rfl) (by decide) (law_14 X Y hR hX hbl hbA hT hS hx4 hL3 hl hrel hE)
      | 15, hn, _ => exact lv_tableIn (tgt := 749) (off := 716) hx hb dL_law_33 (by omega) (by omega) (by rw [hn]; rfl) (by decide) (law_15 X Y hR hX hbl hbA hT hS hx4 hL3 hl hrel hE)
      | 16, hn, _ => exact lv_tableIn (tgt := 772) (off := 739) hx hb dL_law_33 (by omega) (by omega) (by rw [hn]; rfl) (by decide) (law_16 X Y hR hX hbl hbA hT hS hx4 hL3 hl hrel hE)
      | 17, hn, _ => exact lv_tableIn (tgt := 795) (off := 762) hx hb dL_law_33 (by omega) (by omega) (by rw [hn]; rfl) (by decide) (law_17 X Y hR hX hbl hbA hT hS hx4 hL3 hl hrel hE)
      | 18, hn, _ => exact lv_tableIn (tgt := 818) (off := 785) hx hb dL_law_33 (by omega) (by omega) (by rw [hn]; rfl) (by decide) (law_18 X Y hR hX hbl hbA hT hS hx4 hL3 hl hrel hE)
      | 19, hn, _ => exact lv_tableIn (tgt := 841) (off := 808) hx hb dL_law_33 (by omega) (by omega) (by rw [hn]; rfl) (by decide) (law_19 X Y hR hX hbl hbA hT hS hx4 hL3 hl hrel hE)
      | 20, hn, _ => exact lv_tableIn (tgt := 864) (off := 831) hx hb dL_law_33 (by omega) (by omega) (by rw [hn]; rfl) (by decide) (law_20 X Y hR hX hbl hbA hT hS hx4 hL3 hl hrel hE)
      | 21, hn, _ => exact lv_tableIn (tgt := 887) (off := 854) hx hb dL_law_33 (by omega) (by omega) (by rw [hn]; rfl) (by decide) (law_21 X Y hR hX hbl hbA hT hS hx4 hL3 hl hrel hE)
      | 22, hn, _ => exact lv_tableIn (tgt := 900) (off := 867) hx hb dL_law_33 (by omega) (by omega) (by rw [hn]; rfl) (by decide) (law_22 X Y hR hX hbl hbA hT hS hx4 hL3 hl hrel hE)
      | 23, hn, _ => exact lv_tableIn (tgt := 913) (off := 880) hx hb dL_law_33 (by omega) (by omega) (by rw [hn]; rfl) (by decide) (law_23 X Y hR hX hbl hbA hT hS hx4 hL3 hl hrel hE)
      | 24, hn, _ => exact lv_tableIn (tgt := 926) (off := 893) hx hb dL_law_33 (by omega) (by omega) (by rw [hn]; rfl) (by decide) (law_24 X Y hR hX hbl hbA hT hS hx4 hL3 hl hrel hE)
      | 25, hn, _ => exact lv_tableIn (tgt := 939) (off := 906) hx hb dL_law_33 (by omega) (by omega) (by rw [hn]; rfl) (by decide) (law_25 X Y hR hX hbl hbA hT hS hx4 hL3 hl hrel hE)
      | 26, hn, _ => exact lv_tableIn (tgt := 962) (off := 929) hx hb dL_law_33 (by omega) (by omega) (by rw [hn]; rfl) (by decide) (law_26 X Y hR hX hbl hbA hT hS hx4 hL3 hl hrel hE)
      | 27, hn, _ => exact lv_tableIn (tgt := 975) (off := 942) hx hb dL_law_33 (by omega) (by omega) (by rw [hn]; rfl) (by decide) (law_27 X Y hR hX hbl hbA hT hS hx4 hL3 hl hrel hE)
      | 28, hn, _ => exact lv_tableIn (tgt := 998) (off := 965) hx hb dL_law_33 (by omega) (by omega) (by rw [hn]; rfl) (by decide) (law_28 X Y hR hX hbl hbA hT hS hx4 hL3 hl hrel hE)
      | 29, hn, _ => exact lv_tableIn (tgt := 1011) (off := 978) hx hb dL_law_33 (by omega) (by omega) (by rw [hn]; rfl) (by decide) (law_29 X Y hR hX hbl hbA hT hS hx4 hL3 hl hrel hE)
      | 30, hn, _ => exact lv_tableIn (tgt := 1024) (off := 991) hx hb dL_law_33 (by omega) (by omega) (by rw [hn]; rfl) (by decide) (law_30 X Y hR hX hbl hbA hT hS hx4 hL3 hl hrel hE)
      | 31, hn, _ => exact lv_tableIn (tgt := 1037) (off := 1004) hx hb dL_law_33 (by omega) (by omega) (by rw [hn]; rfl) (by decide) (law_31 X Y hR hX hbl hbA hT hS hx4 hL3 hl hrel hE)
      | 32, hn, _ => exact lv_tableIn (tgt := 1060) (off := 1027) hx hb dL_law_33 (by omega) (by omega) (by rw [hn]; rfl) (by decide) (law_32 X Y hR hX hbl hbA hT hS hx4 hL3 hl hrel hE)
      | 33, hn, _ => exact lv_tableIn (tgt := 1083) (off := 1050) hx hb dL_law_33 (by omega) (by omega) (by rw [hn]; rfl) (by decide) (law_33 X Y hR hX hbl hbA hT hS hx4 hL3 hl hrel hE)
      | 34, hn, _ => exact lv_tableIn (tgt := 1096) (off := 1063) hx hb dL_law_33 (by omega) (by omega) (by rw [hn]; rfl) (by decide) (law_34 X Y hR hX hbl hbA hT hS hx4 hL3 hl hrel hE)
      | 35, hn, _ => exact lv_tableIn (tgt := 1109) (off := 1076) hx hb dL_law_33 (by omega) (by omega) (by rw [hn]; rfl) (by decide) (law_35 X Y hR hX hbl hbA hT hS hx4 hL3 hl hrel hE)
      | 36, hn, _ => exact lv_tableIn (tgt := 1132) (off := 1099) hx hb dL_law_33 (by omega) (by omega) (by rw [hn]; rfl) (by decide) (law_36 X Y hR hX hbl hbA hT hS hx4 hL3 hl hrel hE)
      | 37, hn, _ => exact lv_tableIn (tgt := 1145) (off := 1112) hx hb dL_law_33 (by omega) (by omega) (by rw [hn]; rfl) (by decide) (law_37 X Y hR hX hbl hbA hT hS hx4 hL3 hl hrel hE)
      | 38, hn, _ => exact lv_tableIn (tgt := 1158) (off := 1125) hx hb dL_law_33 (by omega) (by omega) (by rw [hn]; rfl) (by decide) (law_38 X Y hR hX hbl hbA hT hS hx4 hL3 hl hrel hE)
      | 39, hn, _ => exact lv_tableIn (tgt := 1171) (off := 1138) hx hb dL_law_33 (by omega) (by omega) (by rw [hn]; rfl) (by decide) (law_39 X Y hR hX hbl hbA hT hS hx4 hL3 hl hrel hE)
      | 40, hn, _ => exact lv_tableIn (tgt := 1194) (off := 1161) hx hb dL_law_33 (by omega) (by omega) (by rw [hn]; rfl) (by decide) (law_40 X Y hR hX hbl hbA hT hS hx4 hL3 hl hrel hE)
      | 41, hn, _ => exact lv_tableIn (tgt := 1227) (off := 1194) hx hb dL_law_33 (by omega) (by omega) (by rw [hn]; rfl) (by decide) (law_41 X Y hR hX hbl hbA hT hS hx4 hL3 hl hrel hE)
      | 42, hn, _ => exact lv_tableIn (tgt := 1250) (off := 1217) hx hb dL_law_33 (by omega) (by omega) (by rw [hn]; rfl) (by decide) (law_42 X Y hR hX hbl hbA hT hS hx4 hL3 hl hrel hE)
      | 43, hn, _ => exact lv_tableIn (tgt := 1283) (off := 1250) hx hb dL_law_33 (by omega) (by omega) (by rw [hn]; rfl) (by decide) (law_43 X Y hR hX hbl hbA hT hS hx4 hL3 hl hrel hE)
      | 44, hn, _ => exact lv_tableIn (tgt := 1306) (off := 1273) hx hb dL_law_33 (by omega) (by omega) (by rw [hn]; rfl) (by decide) (law_44 X Y hR hX hbl hbA hT hS hx4 hL3 hl hrel hE)
      | 45, hn, _ => exact lv_tableIn (tgt := 1339) (off := 1306) hx hb dL_law_33 (by omega) (by omega) (by rw [hn]; rfl) (by decide) (law_45 X Y hR hX hbl hbA hT hS hx4 hL3 hl hrel hE)
      | 46, hn, _ => exact lv_tableIn (tgt := 1372) (off := 1339) hx hb dL_law_33 (by omega) (by omega) (by rw [hn]; rfl) (by decide) (law_46 X Y hR hX hbl hbA hT hS hx4 hL3 hl hrel hE)
      | 47, hn, _ => exact lv_tableIn (tgt := 1405) (off := 1372) hx hb dL_law_33 (by omega) (by omega) (by rw [hn]; rfl) (by decide) (law_47 X Y hR hX hbl hbA hT hS hx4 hL3 hl hrel hE)
      | 48, hn, _ => exact lv_tableIn (tgt := 1438) (off := 1405) hx hb dL_law_33 (by omega) (by omega) (by rw [hn]; rfl) (by decide) (law_48 X Y hR hX hbl hbA hT hS hx4 hL3 hl hrel hE)
      | 49, hn, _ => exact lv_tableIn (tgt := 1471) (off := 1438) hx hb dL_law_33 (by omega) (by omega) (by rw [hn]; rfl) (by decide) (law_49 X Y hR hX hbl hbA hT hS hx4 hL3 hl hrel hE)
      | 50, hn, _ => exact lv_tableIn (tgt := 1494) (off := 1461) hx hb dL_law_33 (by omega) (by omega) (by rw [hn]; rfl) (by decide) (law_50 X Y hR hX hbl hbA hT hS hx4 hL3 hl hrel hE)
      | 51, hn, _ => exact lv_tableIn (tgt := 1517) (off := 1484) hx hb dL_law_33 (by omega) (by omega) (by rw [hn]; rfl) (by decide) (law_51 X Y hR hX hbl hbA hT hS hx4 hL3 hl hrel hE)
      | 52, hn, _ => exact lv_tableIn (tgt := 1530) (off := 1497) hx hb dL_law_33 (by omega) (by omega) (by rw [hn]; rfl) (by decide) (law_52 X Y hR hX hbl hbA hT hS hx4 hL3 hl hrel hE)
      | 53, hn, _ => exact lv_tableIn (tgt := 1543) (off := 1510) hx hb dL_law_33 (by omega) (by omega) (by rw [hn]; rfl) (by decide) (law_53 X Y hR hX hbl hbA hT hS hx4 hL3 hl hrel hE)
      | 54, hn, _ => exact lv_tableIn (tgt := 1556) (off := 1523) hx hb dL_law_33 (by omega) (by omega) (by rw [hn]; rfl) (by decide) (law_54 X Y hR hX hbl hbA hT hS hx4 hL3 hl hrel hE)
      | 55, hn, _ => exact lv_tableIn (tgt := 1569) (off := 1536) hx hb dL_law_33 (by omega) (by omega) (by rw [hn]; rfl) (by decide) (law_55 X Y hR hX hbl hbA hT hS hx4 hL3 hl hrel hE)
      | 56, hn, _ => exact lv_tableIn (tgt := 1582) (off := 1549) hx hb dL_law_33 (by omega) (by omega) (by rw [hn]; rfl) (by decide) (law_56 X Y hR hX hbl hbA hT hS hx4 hL3 hl hrel hE)
      | 57, hn, _ => exact lv_tableIn (tgt := 1605) (off := 1572) hx hb dL_law_33 (by omega) (by omega) (by rw [hn]; rfl) (by decide) (law_57 X Y hR hX hbl hbA hT hS hx4 hL3 hl hrel hE)
      | 58, hn, _ => exact lv_tableIn (tgt := 1638) (off := 1605) hx hb dL_law_33 (by omega) (by omega) (by rw [hn]; rfl) (by decide) (law_58 X Y hR hX hbl hbA hT hS hx4 hL3 hl hrel hE)
      | 59, hn, _ => exact lv_tableIn (tgt := 1691) (off := 1658) hx hb dL_law_33 (by omega) (by omega) (by rw [hn]; rfl) (by decide) (law_59 X Y hR hX hbl hbA hT hS hx4 hL3 hl hrel hE)
      | 60, hn, _ => exact lv_tableIn (tgt := 1724) (off := 1691) hx hb dL_law_33 (by omega) (by omega) (by rw [hn]; rfl) (by decide) (law_60 X Y hR hX hbl hbA hT hS hx4 hL3 hl hrel hE)
      | 61, hn, _ => exact lv_tableIn (tgt := 1747) (off := 1714) hx hb dL_law_33 (by omega) (by omega) (by rw [hn]; rfl) (by decide) (law_61 X Y hR hX hbl hbA hT hS hx4 hL3 hl hrel hE)
      | 62, hn, _ => exact lv_tableIn (tgt := 1780) (off := 1747) hx hb dL_law_33 (by omega) (by omega) (by rw [hn]; rfl) (by decide) (law_62 X Y hR hX hbl hbA hT hS hx4 hL3 hl hrel hE)
      | 63, hn, _ => exact lv_tableIn (tgt := 1813) (off := 1780) hx hb dL_law_33 (by omega) (by omega) (by rw [hn]; rfl) (by decide) (law_63 X Y hR hX hbl hbA hT hS hx4 hL3 hl hrel hE)
      | 64, hn, _ => exact lv_tableIn (tgt := 1826) (off := 1793) hx hb dL_law_33 (by omega) (by omega) (by rw [hn]; rfl) (by decide) (law_64 X Y hR hX hbl hbA hT hS hx4 hL3 hl hrel hE)
      | 65, hn, _ => exact lv_tableIn (tgt := 1839) (off := 1806) hx hb dL_law_33 (by omega) (by omega) (by rw [hn]; rfl) (by decide) (law_65 X Y hR hX hbl hbA hT hS hx4 hL3 hl hrel hE)
      | 66, hn, _ => exact lv_tableIn (tgt := 1872) (off := 1839) hx hb dL_law_33 (by omega) (by omega) (by rw [hn]; rfl) (by decide) (law_66 X Y hR hX hbl hbA hT hS hx4 hL3 hl hrel hE)
      | 67, hn, _ => exact lv_tableIn (tgt := 1915) (off := 1882) hx hb dL_law_33 (by omega) (by omega) (by rw [hn]; rfl) (by decide) (law_67 X Y hR hX hbl hbA hT hS hx4 hL3 hl hrel hE)
      | 68, hn, _ => exact lv_tableIn (tgt := 1948) (off := 1915) hx hb dL_law_33 (by omega) (by omega) (by rw [hn]; rfl) (by decide) (law_68 X Y hR hX hbl hbA hT hS hx4 hL3 hl hrel hE)
      | 69, hn, _ => exact lv_tableIn (tgt := 1971) (off := 1938) hx hb dL_law_33 (by omega) (by omega) (by rw [hn]; rfl) (by decide) (law_69 X Y hR hX hbl hbA hT hS hx4 hL3 hl hrel hE)
      | 70, hn, _ => exact lv_tableIn (tgt := 1994) (off := 1961) hx hb dL_law_33 (by omega) (by omega) (by rw [hn]; rfl) (by decide) (law_70 X Y hR hX hbl hbA hT hS hx4 hL3 hl hrel hE)
      | 71, hn, _ => exact lv_tableIn (tgt := 2017) (off := 1984) hx hb dL_law_33 (by omega) (by omega) (by rw [hn]; rfl) (by decide) (law_71 X Y hR hX hbl hbA hT hS hx4 hL3 hl hrel hE)
      | 72, hn, _ => exact lv_tableIn (tgt := 2060) (off := 2027) hx hb dL_law_33 (by omega) (by omega) (by rw [hn]; rfl) (by decide) (law_72 X Y hR hX hbl hbA hT hS hx4 hL3 hl hrel hE)
      | 73, hn, _ => exact lv_tableIn (tgt := 2133) (off := 2100) hx hb dL_law_33 (by omega) (by omega) (by rw [hn]; rfl) (by decide) (law_73 X Y hR hX hbl hbA hT hS hx4 hL3 hl hrel hE)
      | n + 74, _, h9 => exact absurd h9 (by omega)
