def R_law : String := "UncutTaleLaw"
def lw_P (b : Addr) (xs : List Int32) (args : Array Value) (s : State) : Prop := args = #[.ref b] ∧ s.IntsAt b xs ∧ xs.length ≤ 6 ∧ (Jvm.Cond.and given_1 narrow_1).before args s = true
def lw_Q (_ : Array Value) (s : State) (o : Outcome) (t : State) : Prop := o = .returned (some (.int 1)) ∧ Framed s o t [] 600000 7302250
def lw_Z (below : List Frame) (a : Array Value) (s : State) : State → Prop := fun t => ∃ o, t.status = .running ∧ Ended t below o ∧ lw_Q a s o t
/-- the law's own end, with 1 on the stack, nothing written that was there before, its room as the claim has it -/
theorem lw_ret {p : Program} {l : Launch} {e : Env} {s : State} {m : MethodId} {below : List Frame} {meth : Method} {c : Code} {b : Nat} (hx : p.tables.exec = Jvm.exec) (hb : c.code = code) (hr : meth.sig.returnType = ret) (hlocks : meth.locks = false) {pc : Nat} {H : Heap} {ls : Array Slot} (hdg : decode code pc = .ok (.ireturn, 1)) : W p l e room_1 s m #[Value.ref b] below meth c H [] 600000 7302250 (lw_Z below #[Value.ref b] s) (F0 m pc ls [.int 1]) := by
  intro T hT X
  obtain ⟨fs, hret, hrun, hended, hW, hframe⟩ := X.leave (v := some (.int 1)) (hlocks := hlocks) (fun h => by rw [hr] at h; cases h)
  have hmeth' : T.vm.method? m = some meth := X.method'
  refine ⟨T.setFrames fs, ?_, .returned (some (.int 1)), hrun, hended, rfl, ⟨_, rfl⟩, hW, hframe⟩
  jvm_step X.here [X.here.top, hx, hb, hdg, hmeth', hr, ret, narrow_b1]
  (try refine ⟨rfl, ?_⟩); (try refine ⟨rfl, ?_⟩)
  first | (intro acts; rw [hret _ acts rfl rfl rfl]) | rw [hret _ _ rfl rfl rfl]
  exact Steps.refl _
/-- what holds at the law's entry: the machine, the code, the tables' words (any of lw_tbl by 'hts w (by decide +kernel)'), the script of L ints xs at the cell b, what the Statement gives of the start (any of its parts by flat_of_before) -/
def lw_At (p : Program) (s : State) (m : MethodId) (meth : Method) (c : Code) (b L : Nat) (xs : Nat → Int32) : Prop :=
  p.tables.exec = Jvm.exec ∧ c.code = code ∧ meth.sig.returnType = ret ∧ c.maxLocals = 4 ∧ s.vm.findClass R_law = some m.cls ∧ (∀ w ∈ lw_tbl, w.before #[Value.ref b] s = true) ∧ va_X b L xs s s.heap ∧ b < s.heap.size ∧ meth.locks = false ∧ (Jvm.Cond.and given_1 narrow_1).before #[Value.ref b] s = true
def hh (q : Nat) (f : (Nat → Nat) × (Nat → Nat → Nat)) (q2 : Nat) (f2 : Nat → Nat) : Nat → Nat := fun j => ([q, (f.1 0), (f.2 0 0), (f.1 1), (f.2 1 0), (f.2 1 1), (f.2 1 2), (f.2 1 3), (f.2 1 4), (f.2 1 5), (f.2 1 6), (f.2 1 7), (f.2 1 8), (f.2 1 9), (f.1 2), (f.1 3), (f.2 3 0), (f.2 3 1), (f.2 3 2), (f.2 3 3), (f.2 3 4), (f.2 3 5), (f.2 3 6), (f.2 3 7), (f.2 3 8), (f.2 3 9), (f.1 4), (f.1 5), (f.2 5 0), (f.2 5 1), (f.2 5 2), (f.2 5 3), (f.2 5 4), (f.2 5 5), (f.2 5 6), (f.2 5 7), (f.2 5 8), (f.2 5 9), (f.1 6), (f.2 6 0), (f.2 6 1), (f.2 6 2), (f.2 6 3), (f.2 6 4), (f.2 6 5), (f.2 6 6), (f.2 6 7), (f.2 6 8), (f.2 6 9), (f.1 7), (f.2 7 0), (f.2 7 1), (f.2 7 2), (f.2 7 3), (f.2 7 4), (f.2 7 5), (f.2 7 6), (f.2 7 7), (f.2 7 8), (f.2 7 9), (f.1 8), (f.1 9), (f.2 9 0), (f.2 9 1), (f.2 9 2), (f.1 10), (f.2 10 0), (f.2 10 1), (f.2 10 2), (f.2 10 3), (f.2 10 4), (f.2 10 5), (f.1 11), (f.2 11 0), (f.2 11 1), (f.2 11 2), (f.2 11 3), (f.2 11 4), (f.2 11 5), (f.1 12), (f.2 12 0), (f.2 12 1), (f.2 12 2), (f.2 12 3), (f.2 12 4), (f.2 12 5), (f.2 12 6), (f.2 12 7), (f.2 12 8), (f.2 12 9), (f.2 12 10), (f.1 13), (f.2 13 0), (f.1 14), (f.2 14 0), (f.2 14 1), q2, (f2 0), (f2 1), (f2 2), (f2 3), (f2 4), (f2 5), (f2 6), (f2 7), (f2 8), (f2 9), (f2 10), (f2 11), (f2 12), (f2 13), (f2 14), (f2 15), (f2 16), (f2 17), (f2 18), (f2 19), (f2 20), (f2 21)] : List Nat).getD j 0
def i0 (j : Nat) : Nat → Int32 := match j with
  | 0 => fun k => match k with
    | 12 => 1
    | 13 => 1
    | _ => 0
  | 14 => fun k => match k with
    | 7 => -1
    | _ => 0
  | 62 => (upd (upd (upd (upd (fun _ => 0) (Int32.toNatClampNeg 0) (-1)) (Int32.toNatClampNeg 1) (-1)) (Int32.toNatClampNeg 2) (-1)) (Int32.toNatClampNeg 3) (-1))
  | 96 => fun k => match k with
    | 15 => -1
    | _ => 0
  | 97 => (upd (upd (upd (upd (fun _ => 0) (Int32.toNatClampNeg 0) (-1)) (Int32.toNatClampNeg 1) (-1)) (Int32.toNatClampNeg 2) (-1)) (Int32.toNatClampNeg 3) (-1))
  | _ => fun _ => 0
def g0 (_ : Nat) : Nat → Int64 := fun _ => 0
theorem cell_im (cz : Nat → ClassId) (q : Nat) (f : (Nat → Nat) × (Nat → Nat → Nat)) (q2 : Nat) (f2 : Nat → Nat) : vp_cell (cz 4) (3, .inr (.inr (.inr (.inr (va_up (va_up (va_up (fun _ => none) (Int32.toNatClampNeg 0) (some (f.1 5))) (Int32.toNatClampNeg 1) (some (f.1 6))) (Int32.toNatClampNeg 2) (some (f.1 7))))))) = vp_cell (cz 4) (3, .inr (.inr (.inr (.inr (fun z => if z < ([27, 38, 49] : List Nat).length then some (hh q f q2 f2 (([27, 38, 49] : List Nat).getD z 0)) else none))))) := by
  rw [vp_cell_q, vp_cell_q]
  refine arrV_congr _ (fun j hj => ?_)
  rcases (show j = 0 ∨ j = 1 ∨ j = 2 by omega) with rfl | rfl | rfl <;> rfl
theorem cell_pl (cz : Nat → ClassId) (q : Nat) (f : (Nat → Nat) × (Nat → Nat → Nat)) (q2 : Nat) (f2 : Nat → Nat) : vp_cell (cz 5) (6, .inr (.inr (.inr (.inr (fun z => if z < 6 then some (([f.2 12 1, f.2 12 2, f.2 12 3, f.2 12 4, f.2 12 5, f.2 12 6] : List Nat).getD z 0) else none))))) = vp_cell (cz 5) (6, .inr (.inr (.inr (.inr (fun z => if z < ([81, 82, 83, 84, 85, 86] : List Nat).length then some (hh q f q2 f2 (([81, 82, 83, 84, 85, 86] : List Nat).getD z 0)) else none))))) := by
  rw [vp_cell_q, vp_cell_q]
  refine arrV_congr _ (fun j hj => ?_)
  rcases (show j = 0 ∨ j = 1 ∨ j = 2 ∨ j = 3 ∨ j = 4 ∨ j = 5 by omega) with rfl | rfl | rfl | rfl | rfl | rfl <;> rfl
set_option maxRecDepth 100000 in
set_option maxHeartbeats 8000000 in
theorem w_eq (cz : Nat → ClassId) (q : Nat) (f : (Nat → Nat) × (Nat → Nat → Nat)) (q2 : Nat) (f2 : Nat → Nat) : (((([] : va_W) ++ uW cz q f) ++ mW cz q2 f2).set 26 (hh q f q2 f2 26, cE (hh q f q2 f2) cz (tb 26) (i0 26) (g0 26))).set 80 (hh q f q2 f2 80, cE (hh q f q2 f2) cz (tb 80) (i0 80) (g0 80)) = wH (hh q f q2 f2) cz i0 g0 := by
  have hlen : ((((([] : va_W) ++ uW cz q f) ++ mW cz q2 f2).set 26 (hh q f q2 f2 26, cE (hh q f q2 f2) cz (tb 26) (i0 26) (g0 26))).set 80 (hh q f q2 f2 80, cE (hh q f q2 f2) cz (tb 80) (i0 80) (g0 80))).length = NC := rfl
  apply List.ext_getElem?
  intro j
  by_cases hj : j < NC
  · rw [wH_get _ _ _ _ hj]
    match j, hj with
    | 0, _ => rfl
    | 1, _ => rfl
    | 2, _ => rfl
    | 3, _ => rfl
    | 4, _ => rfl
    | 5, _ => rfl
    | 6, _ => rfl
    | 7, _ => rfl
    | 8, _ => rfl
    | 9, _ => rfl
    | 10, _ => rfl
    | 11, _ => rfl
    | 12, _ => rfl
    | 13, _ => rfl
    | 14, _ => rfl
    | 15, _ => rfl
    | 16, _ => rfl
    | 17, _ => rfl
    | 18, _ => rfl
    | 19, _ => rfl
    | 20, _ => rfl
    | 21, _ => rfl
    | 22, _ => rfl
    | 23, _ => rfl
    | 24, _ => rfl
    | 25, _ => rfl
    | 26, _ => rfl
    | 27, _ => rfl
    | 28, _ => rfl
    | 29, _ => rfl
    | 30, _ => rfl
    | 31, _ => rfl
    | 32, _ => rfl
    | 33, _ => rfl
    | 34, _ => rfl
    | 35, _ => rfl
    | 36, _ => rfl
    | 37, _ => rfl
    | 38, _ => rfl
    | 39, _ => rfl
    | 40, _ => rfl
    | 41, _ => rfl
    | 42, _ => rfl
    | 43, _ => rfl
    | 44, _ => rfl
    | 45, _ => rfl
    | 46, _ => rfl
    | 47, _ => rfl
    | 48, _ => rfl
    | 49, _ => rfl
    | 50, _ => rfl
    | 51, _ => rfl
    | 52, _ => rfl
    | 53, _ => rfl
    | 54, _ => rfl
    | 55, _ => rfl
    | 56, _ => rfl
    | 57, _ => rfl
    | 58, _ => rfl
    | 59, _ => rfl
    | 60, _ => rfl
    | 61, _ => rfl
    | 62, _ => rfl
    | 63, _ => rfl
    | 64, _ => rfl
    | 65, _ => rfl
    | 66, _ => rfl
    | 67, _ => rfl
    | 68, _ => rfl
    | 69, _ => rfl
    | 70, _ => rfl
    | 71, _ => rfl
    | 72, _ => rfl
    | 73, _ => rfl
    | 74, _ => rfl
    | 75, _ => rfl
    | 76, _ => rfl
    | 77, _ => rfl
    | 78, _ => rfl
    | 79, _ => rfl
    | 80, _ => rfl
    | 81, _ => rfl
    | 82, _ => rfl
    | 83, _ => rfl
    | 84, _ => rfl
    | 85, _ => rfl
    | 86, _ => rfl
    | 87, _ => rfl
    | 88, _ => rfl
    | 89, _ => rfl
    | 90, _ => rfl
    | 91, _ => rfl
    | 92, _ => rfl
    | 93, _ => rfl
    | 94, _ => rfl
    | 95, _ => rfl
    | 96, _ => rfl
    | 97, _ => rfl
    | 98, _ => rfl
    | 99, _ => rfl
    | 100, _ => rfl
    | 101, _ => rfl
    | 102, _ => rfl
    | 103, _ => rfl
    | 104, _ => rfl
    | 105, _ => rfl
    | 106, _ => rfl
    | 107, _ => rfl
    | 108, _ => rfl
    | 109, _ => rfl
    | 110, _ => rfl
    | 111, _ => rfl
    | 112, _ => rfl
    | 113, _ => rfl
    | 114, _ => rfl
    | 115, _ => rfl
    | 116, _ => rfl
    | 117, _ => rfl
    | 118, _ => rfl
    | j + 119, hj => exact absurd hj (by show ¬ j + 119 < 119; omega)
  · rw [List.getElem?_eq_none (by rw [hlen]; omega), List.getElem?_eq_none (by rw [wH_len]; omega)]
set_option maxRecDepth 100000 in
theorem RgF0 : Rg rF i0 := Rg_dec (by decide +kernel) ln_hi
set_option maxRecDepth 100000 in
set_option maxHeartbeats 4000000 in
/-- the law's head with a number above the script's length less 6: it ends -/
theorem law_exit {p : Program} {l : Launch} {e : Env} {s : State} {m : MethodId} {below : List Frame} {meth : Method} {c : Code} {D : va_G} {cz : Nat → ClassId} {h : Nat → Nat} {b L : Nat} {xs : Nat → Int32} {H : Heap} {locs : List Loc} {ls : Array Slot} (X : Cxt p s m c #[Value.ref b] cL_law 4 "UncutTaleLaw" D cz) (hr : meth.sig.returnType = ret) (hlocks : meth.locks = false) (hX : va_X b L xs s s.heap) (hbl : b < s.heap.size) (hge : ∀ q, hA h q → s.heap.size ≤ q) (hS : va_S (hA h) s.heap H locs) {x3 : Int32} (hx3 : Int32.ofNat L - 6 < x3) (hl : lv_has ls 4 [(3, .int x3), (2, .ref (h 96)), (1, .ref (h 0)), (0, .ref b)]) : W p l e room_1 s m #[Value.ref b] below meth c H locs 600000 7302250 (lw_Z below #[Value.ref b] s) (F0 m 18 ls []) := by
  have hx := X.1
  have hb := X.2.1
  have hbA : ¬ hA h b := fun q => Nat.not_le.mpr hbl (hge b q)
  refine lv_iload_n hx hb dL_law_18 rfl (lv_at hl 0 rfl) ?_
  refine lv_aload_n hx hb dL_law_19 rfl (lv_at hl 3 rfl) ?_
  refine va_slen hx hb hX hbl hbA hS dL_law_20 ?_
  refine lv_bipush (v := 6) hx hb dL_law_21 (by decide) ?_
  refine lv_isub hx hb dL_law_23 ?_
  refine lv_icmp_gt (tgt := 2203) hx hb dL_law_24 (by decide) (fun _ => ?_) (fun c => absurd hx3 c)
  refine lv_iconst (v := 1) hx hb dL_law_2203 (by decide) ?_
  refine va_forget (fun q hq => hge _ (hS.2.2 q hq)) ?_
  exact lw_ret hx hb hr hlocks dL_law_2204
set_option maxRecDepth 100000 in
set_option maxHeartbeats 4000000 in
theorem law_body {p : Program} {l : Launch} {e : Env} {s : State} {m : MethodId} {below : List Frame} {meth : Method} {c : Code} {D : va_G} {cz : Nat → ClassId} {h : Nat → Nat} {b : Nat} {xs : Nat → Int32} {H : Heap} {locs : List Loc} {ls : Array Slot} (X : Cxt p s m c #[Value.ref b] cL_law 4 "UncutTaleLaw" D cz) (hr : meth.sig.returnType = ret) (hlocks : meth.locks = false) (hX : va_X b 6 xs s s.heap) (hbl : b < s.heap.size) (hge : ∀ q, hA h q → s.heap.size ≤ q) (hS : va_S (hA h) s.heap H locs) {i : Nat → Nat → Int32} {g : Nat → Nat → Int64} (hRF : Rg rF i) (hT : TH D h cz i g H) (hl : lv_has ls 4 [(3, .int 0), (2, .ref (h 96)), (1, .ref (h 0)), (0, .ref b)]) : W p l e room_1 s m #[Value.ref b] below meth c H locs 600000 7302250 (lw_Z below #[Value.ref b] s) (F0 m 18 ls []) := by
  have hx := X.1
  have hb := X.2.1
  have hbA : ¬ hA h b := fun q => Nat.not_le.mpr hbl (hge b q)
  have hRL : Rg rL i := Rg_mono hRF mono_FL ln_hi
  have hRM : Rg rM i := Rg_mono hRF mono_FM ln_hi
  have hRN : Rg rN i := Rg_mono hRF mono_FN ln_hi
  have hE : ∀ (H : Heap) (locs : List Loc) (ls : Array Slot), va_S (hA h) s.heap H locs → lv_has ls 4 [(3, .int 0), (2, .ref (h 96)), (1, .ref (h 0)), (0, .ref b)] → W p l e room_1 s m #[Value.ref b] below meth c H locs 600000 7302250 (lw_Z below #[Value.ref b] s) (F0 m 2197 ls []) := by
    intro H locs ls hS hl
    refine lv_iinc (v := 6) (lv' := [(3, .int 6), (2, .ref (h 96)), (1, .ref (h 0)), (0, .ref b)]) hx hb dL_law_2197 hl (k := 0) rfl (by decide) (by decide) rfl (fun ls hl => ?_)
    refine lv_goto (tgt := 18) hx hb dL_law_2200 (by decide) ?_
    exact law_exit X hr hlocks hX hbl hge hS (by decide) hl
  refine lv_iload_n hx hb dL_law_18 rfl (lv_at hl 0 rfl) ?_
  refine lv_aload_n hx hb dL_law_19 rfl (lv_at hl 3 rfl) ?_
  refine va_slen hx hb hX hbl hbA hS dL_law_20 ?_
  refine lv_bipush (v := 6) hx hb dL_law_21 (by decide) ?_
  refine lv_isub hx hb dL_law_23 ?_
  refine lv_icmp_gt (tgt := 2203) hx hb dL_law_24 (by decide) (fun c => absurd c (by decide)) (fun _ => ?_)
  refine lv_aload_n hx hb dL_law_27 rfl (lv_at hl 3 rfl) ?_
  refine lv_iload_n hx hb dL_law_28 rfl (lv_at hl 0 rfl) ?_
  refine va_sld hx hb hX hbl hbA hS (i := 0) (v_in (rg_k (by decide) : rg 0 0 0) (by decide)) dL_law_29 ?_
  refine lv_bipush (v := 127) hx hb dL_law_30 (by decide) ?_
  refine q_iand hx hb dL_law_32 (fun x ex => ?_)
  have hx0 := rg_and127 ex
  rcases Int.lt_or_le 73 x.toInt with hd | hd
  · refine lv_tableOut (tgt := 2197) hx hb dL_law_33 (Or.inr hd) (by decide) ?_
    exact hE _ _ _ hS hl
  · obtain ⟨n, hn⟩ := Int.eq_ofNat_of_zero_le hx0.1
    have hn73 : n ≤ 73 := by omega
    match n, hn, hn73 with
    | 0, hn, _ => exact lv_tableIn (tgt := 344) (off := 311) hx hb dL_law_33 (by omega) (by omega) (by rw [hn]; rfl) (by decide) (law_0 X hRF hRL hRM hRN hX hbl hbA hT hS hl hE)
    | 1, hn, _ => exact lv_tableIn (tgt := 407) (off := 374) hx hb dL_law_33 (by omega) (by omega) (by rw [hn]; rfl) (by decide) (law_1 X hRF hRL hRM hRN hX hbl hbA hT hS hl hE)
    | 2, hn, _ => exact lv_tableIn (tgt := 430) (off := 397) hx hb dL_law_33 (by omega) (by omega) (by rw [hn]; rfl) (by decide) (law_2 X hRF hRL hRM hRN hX hbl hbA hT hS hl hE)
    | 3, hn, _ => exact lv_tableIn (tgt := 443) (off := 410) hx hb dL_law_33 (by omega) (by omega) (by rw [hn]; rfl) (by decide) (law_3 X hRF hRL hRM hRN hX hbl hbA hT hS hl hE)
    | 4, hn, _ => exact lv_tableIn (tgt := 466) (off := 433) hx hb dL_law_33 (by omega) (by omega) (by rw [hn]; rfl) (by decide) (law_4 X hRF hRL hRM hRN hX hbl hbA hT hS hl hE)
    | 5, hn, _ => exact lv_tableIn (tgt := 499) (off := 466) hx hb dL_law_33 (by omega) (by omega) (by rw [hn]; rfl) (by decide) (law_5 X hRF hRL hRM hRN hX hbl hbA hT hS hl hE)
    | 6, hn, _ => exact lv_tableIn (tgt := 522) (off := 489) hx hb dL_law_33 (by omega) (by omega) (by rw [hn]; rfl) (by decide) (law_6 X hRF hRL hRM hRN hX hbl hbA hT hS hl hE)
    | 7, hn, _ => exact lv_tableIn (tgt := 555) (off := 522) hx hb dL_law_33 (by omega) (by omega) (by rw [hn]; rfl) (by decide) (law_7 X hRF hRL hRM hRN hX hbl hbA hT hS hl hE)
    | 8, hn, _ => exact lv_tableIn (tgt := 588) (off := 555) hx hb dL_law_33 (by omega) (by omega) (by rw [hn]; rfl) (by decide) (law_8 X hRF hRL hRM hRN hX hbl hbA hT hS hl hE)
    | 9, hn, _ => exact lv_tableIn (tgt := 611) (off := 578) hx hb dL_law_33 (by omega) (by omega) (by rw [hn]; rfl) (by decide) (law_9 X hRF hRL hRM hRN hX hbl hbA hT hS hl hE)
    | 10, hn, _ => exact lv_tableIn (tgt := 634) (off := 601) hx hb dL_law_33 (by omega) (by omega) (by rw [hn]; rfl) (by decide) (law_10 X hRF hRL hRM hRN hX hbl hbA hT hS hl hE)
    | 11, hn, _ => exact lv_tableIn (tgt := 657) (off := 624) hx hb dL_law_33 (by omega) (by omega) (by rw [hn]; rfl) (by decide) (law_11 X hRF hRL hRM hRN hX hbl hbA hT hS hl hE)
    | 12, hn, _ => exact lv_tableIn (tgt := 680) (off := 647) hx hb dL_law_33 (by omega) (by omega) (by rw [hn]; rfl) (by decide) (law_12 X hRF hRL hRM hRN hX hbl hbA hT hS hl hE)
    | 13, hn, _ => exact lv_tableIn (tgt := 703) (off := 670) hx hb dL_law_33 (by omega) (by omega) (by rw [hn]; rfl) (by decide) (law_13 X hRF hRL hRM hRN hX hbl hbA hT hS hl hE)
    | 14, hn, _ => exact lv_tableIn (tgt := 716) (off := 683) hx hb dL_law_33 (by omega) (by omega) (by rw [hn]; rfl) (by decide) (law_14 X hRF hRL hRM hRN hX hbl hbA hT hS hl hE)
    | 15, hn, _ => exact lv_tableIn (tgt := 749) (off := 716) hx hb dL_law_33 (by omega) (by omega) (by rw [hn]; rfl) (by decide) (law_15 X hRF hRL hRM hRN hX hbl hbA hT hS hl hE)
    | 16, hn, _ => exact lv_tableIn (tgt := 772) (off := 739) hx hb dL_law_33 (by omega) (by omega) (by rw [hn]; rfl) (by decide) (law_16 X hRF hRL hRM hRN hX hbl hbA hT hS hl hE)
    | 17, hn, _ => exact lv_tableIn (tgt := 795) (off := 762) hx hb dL_law_33 (by omega) (by omega) (by rw [hn]; rfl) (by decide) (law_17 X hRF hRL hRM hRN hX hbl hbA hT hS hl hE)
    | 18, hn, _ => exact lv_tableIn (tgt := 818) (off := 785) hx hb dL_law_33 (by omega) (by omega) (by rw [hn]; rfl) (by decide) (law_18 X hRF hRL hRM hRN hX hbl hbA hT hS hl hE)
    | 19, hn, _ => exact lv_tableIn (tgt := 841) (off := 808) hx hb dL_law_33 (by omega) (by omega) (by rw [hn]; rfl) (by decide) (law_19 X hRF hRL hRM hRN hX hbl hbA hT hS hl hE)
    | 20, hn, _ => exact lv_tableIn (tgt := 864) (off := 831) hx hb dL_law_33 (by omega) (by omega) (by rw [hn]; rfl) (by decide) (law_20 X hRF hRL hRM hRN hX hbl hbA hT hS hl hE)
    | 21, hn, _ => exact lv_tableIn (tgt := 887) (off := 854) hx hb dL_law_33 (by omega) (by omega) (by rw [hn]; rfl) (by decide) (law_21 X hRF hRL hRM hRN hX hbl hbA hT hS hl hE)
    | 22, hn, _ => exact lv_tableIn (tgt := 900) (off := 867) hx hb dL_law_33 (by omega) (by omega) (by rw [hn]; rfl) (by decide) (law_22 X hRF hRL hRM hRN hX hbl hbA hT hS hl hE)
    | 23, hn, _ => exact lv_tableIn (tgt := 913) (off := 880) hx hb dL_law_33 (by omega) (by omega) (by rw [hn]; rfl) (by decide) (law_23 X hRF hRL hRM hRN hX hbl hbA hT hS hl hE)
    | 24, hn, _ => exact lv_tableIn (tgt := 926) (off := 893) hx hb dL_law_33 (by omega) (by omega) (by rw [hn]; rfl) (by decide) (law_24 X hRF hRL hRM hRN hX hbl hbA hT hS hl hE)
    | 25, hn, _ => exact lv_tableIn (tgt := 939) (off := 906) hx hb dL_law_33 (by omega) (by omega) (by rw [hn]; rfl) (by decide) (law_25 X hRF hRL hRM hRN hX hbl hbA hT hS hl hE)
    | 26, hn, _ => exact lv_tableIn (tgt := 962) (off := 929) hx hb dL_law_33 (by omega) (by omega) (by rw [hn]; rfl) (by decide) (law_26 X hRF hRL hRM hRN hX hbl hbA hT hS hl hE)
    | 27, hn, _ => exact lv_tableIn (tgt := 975) (off := 942) hx hb dL_law_33 (by omega) (by omega) (by rw [hn]; rfl) (by decide) (law_27 X hRF hRL hRM hRN hX hbl hbA hT hS hl hE)
    | 28, hn, _ => exact lv_tableIn (tgt := 998) (off := 965) hx hb dL_law_33 (by omega) (by omega) (by rw [hn]; rfl) (by decide) (law_28 X hRF hRL hRM hRN hX hbl hbA hT hS hl hE)
    | 29, hn, _ => exact lv_tableIn (tgt := 1011) (off := 978) hx hb dL_law_33 (by omega) (by omega) (by rw [hn]; rfl) (by decide) (law_29 X hRF hRL hRM hRN hX hbl hbA hT hS hl hE)
    | 30, hn, _ => exact lv_tableIn (tgt := 1024) (off := 991) hx hb dL_law_33 (by omega) (by omega) (by rw [hn]; rfl) (by decide) (law_30 X hRF hRL hRM hRN hX hbl hbA hT hS hl hE)
    | 31, hn, _ => exact lv_tableIn (tgt := 1037) (off := 1004) hx hb dL_law_33 (by omega) (by omega) (by rw [hn]; rfl) (by decide) (law_31 X hRF hRL hRM hRN hX hbl hbA hT hS hl hE)
    | 32, hn, _ => exact lv_tableIn (tgt := 1060) (off := 1027) hx hb dL_law_33 (by omega) (by omega) (by rw [hn]; rfl) (by decide) (law_32 X hRF hRL hRM hRN hX hbl hbA hT hS hl hE)
    | 33, hn, _ => exact lv_tableIn (tgt := 1083) (off := 1050) hx hb dL_law_33 (by omega) (by omega) (by rw [hn]; rfl) (by decide) (law_33 X hRF hRL hRM hRN hX hbl hbA hT hS hl hE)
    | 34, hn, _ => exact lv_tableIn (tgt := 1096) (off := 1063) hx hb dL_law_33 (by omega) (by omega) (by rw [hn]; rfl) (by decide) (law_34 X hRF hRL hRM hRN hX hbl hbA hT hS hl hE)
    | 35, hn, _ => exact lv_tableIn (tgt := 1109) (off := 1076) hx hb dL_law_33 (by omega) (by omega) (by rw [hn]; rfl) (by decide) (law_35 X hRF hRL hRM hRN hX hbl hbA hT hS hl hE)
    | 36, hn, _ => exact lv_tableIn (tgt := 1132) (off := 1099) hx hb dL_law_33 (by omega) (by omega) (by rw [hn]; rfl) (by decide) (law_36 X hRF hRL hRM hRN hX hbl hbA hT hS hl hE)
    | 37, hn, _ => exact lv_tableIn (tgt := 1145) (off := 1112) hx hb dL_law_33 (by omega) (by omega) (by rw [hn]; rfl) (by decide) (law_37 X hRF hRL hRM hRN hX hbl hbA hT hS hl hE)
    | 38, hn, _ => exact lv_tableIn (tgt := 1158) (off := 1125) hx hb dL_law_33 (by omega) (by omega) (by rw [hn]; rfl) (by decide) (law_38 X hRF hRL hRM hRN hX hbl hbA hT hS hl hE)
    | 39, hn, _ => exact lv_tableIn (tgt := 1171) (off := 1138) hx hb dL_law_33 (by omega) (by omega) (by rw [hn]; rfl) (by decide) (law_39 X hRF hRL hRM hRN hX hbl hbA hT hS hl hE)
    | 40, hn, _ => exact lv_tableIn (tgt := 1194) (off := 1161) hx hb dL_law_33 (by omega) (by omega) (by rw [hn]; rfl) (by decide) (law_40 X hRF hRL hRM hRN hX hbl hbA hT hS hl hE)
    | 41, hn, _ => exact lv_tableIn (tgt := 1227) (off := 1194) hx hb dL_law_33 (by omega) (by omega) (by rw [hn]; rfl) (by decide) (law_41 X hRF hRL hRM hRN hX hbl hbA hT hS hl hE)
    | 42, hn, _ => exact lv_tableIn (tgt := 1250) (off := 1217) hx hb dL_law_33 (by omega) (by omega) (by rw [hn]; rfl) (by decide) (law_42 X hRF hRL hRM hRN hX hbl hbA hT hS hl hE)
    | 43, hn, _ => exact lv_tableIn (tgt := 1283) (off := 1250) hx hb dL_law_33 (by omega) (by omega) (by rw [hn]; rfl) (by decide) (law_43 X hRF hRL hRM hRN hX hbl hbA hT hS hl hE)
    | 44, hn, _ => exact lv_tableIn (tgt := 1306) (off := 1273) hx hb dL_law_33 (by omega) (by omega) (by rw [hn]; rfl) (by decide) (law_44 X hRF hRL hRM hRN hX hbl hbA hT hS hl hE)
    | 45, hn, _ => exact lv_tableIn (tgt := 1339) (off := 1306) hx hb dL_law_33 (by omega) (by omega) (by rw [hn]; rfl) (by decide) (law_45 X hRF hRL hRM hRN hX hbl hbA hT hS hl hE)
    | 46, hn, _ => exact lv_tableIn (tgt := 1372) (off := 1339) hx hb dL_law_33 (by omega) (by omega) (by rw [hn]; rfl) (by decide) (law_46 X hRF hRL hRM hRN hX hbl hbA hT hS hl hE)
    | 47, hn, _ => exact lv_tableIn (tgt := 1405) (off := 1372) hx hb dL_law_33 (by omega) (by omega) (by rw [hn]; rfl) (by decide) (law_47 X hRF hRL hRM hRN hX hbl hbA hT hS hl hE)
    | 48, hn, _ => exact lv_tableIn (tgt := 1438) (off := 1405) hx hb dL_law_33 (by omega) (by omega) (by rw [hn]; rfl) (by decide) (law_48 X hRF hRL hRM hRN hX hbl hbA hT hS hl hE)
    | 49, hn, _ => exact lv_tableIn (tgt := 1471) (off := 1438) hx hb dL_law_33 (by omega) (by omega) (by rw [hn]; rfl) (by decide) (law_49 X hRF hRL hRM hRN hX hbl hbA hT hS hl hE)
    | 50, hn, _ => exact lv_tableIn (tgt := 1494) (off := 1461) hx hb dL_law_33 (by omega) (by omega) (by rw [hn]; rfl) (by decide) (law_50 X hRF hRL hRM hRN hX hbl hbA hT hS hl hE)
    | 51, hn, _ => exact lv_tableIn (tgt := 1517) (off := 1484) hx hb dL_law_33 (by omega) (by omega) (by rw [hn]; rfl) (by decide) (law_51 X hRF hRL hRM hRN hX hbl hbA hT hS hl hE)
    | 52, hn, _ => exact lv_tableIn (tgt := 1530) (off := 1497) hx hb dL_law_33 (by omega) (by omega) (by rw [hn]; rfl) (by decide) (law_52 X hRF hRL hRM hRN hX hbl hbA hT hS hl hE)
    | 53, hn, _ => exact lv_tableIn (tgt := 1543) (off := 1510) hx hb dL_law_33 (by omega) (by omega) (by rw [hn]; rfl) (by decide) (law_53 X hRF hRL hRM hRN hX hbl hbA hT hS hl hE)
    | 54, hn, _ => exact lv_tableIn (tgt := 1556) (off := 1523) hx hb dL_law_33 (by omega) (by omega) (by rw [hn]; rfl) (by decide) (law_54 X hRF hRL hRM hRN hX hbl hbA hT hS hl hE)
    | 55, hn, _ => exact lv_tableIn (tgt := 1569) (off := 1536) hx hb dL_law_33 (by omega) (by omega) (by rw [hn]; rfl) (by decide) (law_55 X hRF hRL hRM hRN hX hbl hbA hT hS hl hE)
    | 56, hn, _ => exact lv_tableIn (tgt := 1582) (off := 1549) hx hb dL_law_33 (by omega) (by omega) (by rw [hn]; rfl) (by decide) (law_56 X hRF hRL hRM hRN hX hbl hbA hT hS hl hE)
    | 57, hn, _ => exact lv_tableIn (tgt := 1605) (off := 1572) hx hb dL_law_33 (by omega) (by omega) (by rw [hn]; rfl) (by decide) (law_57 X hRF hRL hRM hRN hX hbl hbA hT hS hl hE)
    | 58, hn, _ => exact lv_tableIn (tgt := 1638) (off := 1605) hx hb dL_law_33 (by omega) (by omega) (by rw [hn]; rfl) (by decide) (law_58 X hRF hRL hRM hRN hX hbl hbA hT hS hl hE)
    | 59, hn, _ => exact lv_tableIn (tgt := 1691) (off := 1658) hx hb dL_law_33 (by omega) (by omega) (by rw [hn]; rfl) (by decide) (law_59 X hRF hRL hRM hRN hX hbl hbA hT hS hl hE)
    | 60, hn, _ => exact lv_tableIn (tgt := 1724) (off := 1691) hx hb dL_law_33 (by omega) (by omega) (by rw [hn]; rfl) (by decide) (law_60 X hRF hRL hRM hRN hX hbl hbA hT hS hl hE)
    | 61, hn, _ => exact lv_tableIn (tgt := 1748) (off := 1715) hx hb dL_law_33 (by omega) (by omega) (by rw [hn]; rfl) (by decide) (law_61 X hRF hRL hRM hRN hX hbl hbA hT hS hl hE)
    | 62, hn, _ => exact lv_tableIn (tgt := 1781) (off := 1748) hx hb dL_law_33 (by omega) (by omega) (by rw [hn]; rfl) (by decide) (law_62 X hRF hRL hRM hRN hX hbl hbA hT hS hl hE)
    | 63, hn, _ => exact lv_tableIn (tgt := 1814) (off := 1781) hx hb dL_law_33 (by omega) (by omega) (by rw [hn]; rfl) (by decide) (law_63 X hRF hRL hRM hRN hX hbl hbA hT hS hl hE)
    | 64, hn, _ => exact lv_tableIn (tgt := 1827) (off := 1794) hx hb dL_law_33 (by omega) (by omega) (by rw [hn]; rfl) (by decide) (law_64 X hRF hRL hRM hRN hX hbl hbA hT hS hl hE)
    | 65, hn, _ => exact lv_tableIn (tgt := 1840) (off := 1807) hx hb dL_law_33 (by omega) (by omega) (by rw [hn]; rfl) (by decide) (law_65 X hRF hRL hRM hRN hX hbl hbA hT hS hl hE)
    | 66, hn, _ => exact lv_tableIn (tgt := 1873) (off := 1840) hx hb dL_law_33 (by omega) (by omega) (by rw [hn]; rfl) (by decide) (law_66 X hRF hRL hRM hRN hX hbl hbA hT hS hl hE)
    | 67, hn, _ => exact lv_tableIn (tgt := 1916) (off := 1883) hx hb dL_law_33 (by omega) (by omega) (by rw [hn]; rfl) (by decide) (law_67 X hRF hRL hRM hRN hX hbl hbA hT hS hl hE)
    | 68, hn, _ => exact lv_tableIn (tgt := 1949) (off := 1916) hx hb dL_law_33 (by omega) (by omega) (by rw [hn]; rfl) (by decide) (law_68 X hRF hRL hRM hRN hX hbl hbA hT hS hl hE)
    | 69, hn, _ => exact lv_tableIn (tgt := 1972) (off := 1939) hx hb dL_law_33 (by omega) (by omega) (by rw [hn]; rfl) (by decide) (law_69 X hRF hRL hRM hRN hX hbl hbA hT hS hl hE)
    | 70, hn, _ => exact lv_tableIn (tgt := 1995) (off := 1962) hx hb dL_law_33 (by omega) (by omega) (by rw [hn]; rfl) (by decide) (law_70 X hRF hRL hRM hRN hX hbl hbA hT hS hl hE)
    | 71, hn, _ => exact lv_tableIn (tgt := 2018) (off := 1985) hx hb dL_law_33 (by omega) (by omega) (by rw [hn]; rfl) (by decide) (law_71 X hRF hRL hRM hRN hX hbl hbA hT hS hl hE)
    | 72, hn, _ => exact lv_tableIn (tgt := 2061) (off := 2028) hx hb dL_law_33 (by omega) (by omega) (by rw [hn]; rfl) (by decide) (law_72 X hRF hRL hRM hRN hX hbl hbA hT hS hl hE)
    | 73, hn, _ => exact lv_tableIn (tgt := 2134) (off := 2101) hx hb dL_law_33 (by omega) (by omega) (by rw [hn]; rfl) (by decide) (law_73 X hRF hRL hRM hRN hX hbl hbA hT hS hl hE)
    | n + 74, _, h9 => exact absurd h9 (by omega)
abbrev hA0 (h : Nat → Nat) : Nat → Prop := hA h
set_option maxRecDepth 100000 in
set_option maxHeartbeats 8000000 in
/-- THE LAW, from its entry -/
theorem whole_start {p : Program} {e : Env} {s : State} {m : MethodId} {below : List Frame} {meth : Method} {c : Code} (l : Launch) {b L : Nat} {xs : Nat → Int32} (hL : L ≤ 6) (C0 : lw_At p s m meth c b L xs) : W p l e room_1 s m #[Value.ref b] below meth c s.heap [] 0 0 (lw_Z below #[Value.ref b] s) (entryFrame m ([Value.ref b] : List Value).toArray 4) := by
  obtain ⟨hx, hb, hr, hml, hown, hts, hX, hbl, hlocks, hgv⟩ := C0
  have hGW : ∀ w ∈ GW, w.before #[Value.ref b] s = true := fun w hw => hts w (GW_tbl w hw)
  have nw0 : va_AO "UncutTale$Story" s := va_AO.of (hts (Cond.arrayOver (.object "UncutTale$Story")) (List.mem_of_getElem? (i := 292) (by decide +kernel)))
  have nw1 : va_AOA .int s := hts (Cond.arrayOver (.array .int)) (List.mem_of_getElem? (i := 359) (by decide +kernel))
  have nw2 : va_Nw (.methodLinkNest "UncutTale" 18 yX6_init "UncutTale") s := va_Nw.of rfl (hts (Cond.methodLinkNest "UncutTale" 18 yX6_init "UncutTale") (List.mem_of_getElem? (i := 152) (by decide +kernel)))
  have nw3 : va_Nw (.methodLinkNest "UncutTale" 45 yX5_init "UncutTale") s := va_Nw.of rfl (hts (Cond.methodLinkNest "UncutTale" 45 yX5_init "UncutTale") (List.mem_of_getElem? (i := 295) (by decide +kernel)))
  have nw4 : va_Nw (.methodLinkNest "UncutTale" 9 yX7_init "UncutTale") s := va_Nw.of rfl (hts (Cond.methodLinkNest "UncutTale" 9 yX7_init "UncutTale") (List.mem_of_getElem? (i := 136) (by decide +kernel)))
  obtain ⟨c0, iS0, hKn0⟩ := u_known (C := RX0) (T := TX0) (N := 10) (n := 10) hGW iw_0 (hGW _ gm_312)
  obtain ⟨c1, iS1, hKn1⟩ := u_known (C := RX1) (T := TX1) (N := 6) (n := 6) hGW iw_1 (hGW _ gm_417)
  obtain ⟨c2, iS2, hKn2⟩ := u_known (C := RX2) (T := TX2) (N := 5) (n := 5) hGW iw_2 (hGW _ gm_392)
  obtain ⟨c3, iS3, hKn3⟩ := u_known (C := RX3) (T := TX3) (N := 8) (n := 8) hGW iw_3 (hGW _ gm_260)
  obtain ⟨c4, iS4, hKn4⟩ := u_known (C := RX4) (T := TX4) (N := 9) (n := 9) hGW iw_4 (hGW _ gm_353)
  obtain ⟨c5, iS5, hKn5⟩ := u_known (C := RX5) (T := TX5) (N := 3) (n := 3) hGW iw_5 (hGW _ gm_294)
  obtain ⟨c6, iS6, hKn6⟩ := u_known (C := RX6) (T := TX6) (N := 18) (n := 18) hGW iw_6 (hGW _ gm_151)
  obtain ⟨c7, iS7, hKn7⟩ := u_known (C := RX7) (T := TX7) (N := 2) (n := 2) hGW iw_7 (hGW _ gm_135)
  obtain ⟨c8, iS8, hKn8⟩ := u_known (C := RX8) (T := TX8) (N := 15) (n := 15) hGW iw_8 (hGW _ gm_127)
  obtain ⟨c9, iS9, hKn9⟩ := u_known (C := RX9) (T := TX9) (N := 51) (n := 51) hGW iw_9 (hGW _ gm_1329)
  obtain ⟨dC, dI, hKc⟩ : ∃ (dC : Nat → ClassId) (dI : Nat → Nat → Nat), ∀ (k : Nat) (q : vw_C), vwCl[k]? = some q → u_Kn s q.1 q.2.1 q.2.2 (dC k) (dI k) := by
    refine ⟨fun k => match k with | 0 => c0 | 1 => c1 | 2 => c2 | 3 => c3 | 4 => c4 | 5 => c5 | 6 => c6 | 7 => c7 | 8 => c8 | _ => c9, fun k => match k with | 0 => iS0 | 1 => iS1 | 2 => iS2 | 3 => iS3 | 4 => iS4 | 5 => iS5 | 6 => iS6 | 7 => iS7 | 8 => iS8 | _ => iS9, ?_⟩
    intro k q hq
    match k, hq with
    | 0, hq => cases hq; exact hKn0
    | 1, hq => cases hq; exact hKn1
    | 2, hq => cases hq; exact hKn2
    | 3, hq => cases hq; exact hKn3
    | 4, hq => cases hq; exact hKn4
    | 5, hq => cases hq; exact hKn5
    | 6, hq => cases hq; exact hKn6
    | 7, hq => cases hq; exact hKn7
    | 8, hq => cases hq; exact hKn8
    | 9, hq => cases hq; exact hKn9
    | k + 10, hq => simp [vwCl] at hq
  obtain ⟨z0, k0, p0, a0, b0, d0⟩ := Cond.arrayClass_spec (hGW (.arrayClass .int) gm_258)
  obtain ⟨z1, k1, p1, a1, b1, d1⟩ := Cond.arrayClass_spec (hGW (.arrayClass .byte) gm_149)
  obtain ⟨z2, k2, p2, a2, b2, d2⟩ := Cond.arrayClass_spec (hGW (.arrayClass .boolean) gm_309)
  obtain ⟨z3, k3, p3, a3, b3, d3⟩ := Cond.arrayClass_spec (hGW (.arrayClass .long) gm_310)
  obtain ⟨p4, z4, k4, e4, -, b4, d4, a4⟩ := Cond.arrayOver_spec (va_AO.use (A := #[]) nw0)
  obtain ⟨p5, z5, k5, e5, b5, d5, a5⟩ := Cond.arrayOver_specA (va_AOA.use (A := #[]) nw1)
  obtain ⟨cz, hcz⟩ : ∃ cz : Nat → ClassId, cz = fun k => match k with | 0 => z0 | 1 => z1 | 2 => z2 | 3 => z3 | 4 => z4 | _ => z5 := ⟨_, rfl⟩
  have hK : va_K (dC, dI) vwCl (tyL cz) s := by
    refine ⟨hKc, fun k q hq => ?_⟩
    rw [hcz] at hq
    match k, hq with
    | 0, hq => cases hq; exact ⟨fun n z => ⟨fun k h => (by cases h), k0, b0, p0, d0⟩, a0⟩
    | 1, hq => cases hq; exact ⟨fun n z => ⟨fun k h => (by cases h), k1, b1, p1, d1⟩, a1⟩
    | 2, hq => cases hq; exact ⟨fun n z => ⟨fun k h => (by cases h), k2, b2, p2, d2⟩, a2⟩
    | 3, hq => cases hq; exact ⟨fun n z => ⟨fun k h => (by cases h), k3, b3, p3, d3⟩, a3⟩
    | 4, hq => cases hq; exact ⟨fun n z => ⟨fun k h => (by cases h), k4, b4, p4, d4⟩, k4, p4, b4, d4, e4, a4⟩
    | 5, hq => cases hq; exact ⟨fun n z => ⟨fun k h => (by cases h), k5, b5, p5, d5⟩, a5⟩
    | k + 6, hq => simp [tyL] at hq
  obtain ⟨D, hD0⟩ : ∃ D : va_G, D = (dC, dI) := ⟨_, rfl⟩
  rw [← hD0] at hK
  have X : Cxt p s m c #[Value.ref b] cL_law 4 "UncutTaleLaw" D cz := ⟨hx, hb, hml, hown, hGW, hK⟩
  have hA : ∀ q : Nat, s.heap.size ≤ q → (fun q : Nat => s.heap.size ≤ q) q := fun _ h => h
  have hS : va_S (fun q : Nat => s.heap.size ≤ q) s.heap s.heap [] := va_S.rf
  have hP : va_P D vwCl [] s.heap := fun k q h => by simp at h
  have hD : va_D (fun q : Nat => s.heap.size ≤ q) [] := ⟨fun i j p q h => by simp at h, fun k q h => by simp at h⟩
  have hl := lv_entry ([.ref b]) (n := 4) (Nat.le_of_ble_eq_true rfl)
  rw [lg_entry_eq]
  generalize (lg_sl ([.ref b]) ++ List.replicate (4 - (lg_sl ([.ref b])).length) Slot.unset).toArray = ls at hl ⊢
  have hl : lv_has ls 4 [(0, .ref b)] := hl
  refine n_new (ci := 8) (fs := [.null, .null, .null, .null, .null, .null, .null, .null, .null, .null, .null, .null, .int 0, .int 0, .int 0]) X hP hD hS hA tyX8 tyX8_ok iw_8 rfl gm_126 gm_127 gm_108 df_8 (Nat.le_of_ble_eq_true rfl) (Nat.le_of_ble_eq_true rfl) dL_law_0 (fun q H hP hD hS => ?_)
  refine lv_dup hx hb dL_law_3 rfl ?_
  refine n_callI (S := ((Nat → Nat) × (Nat → Nat → Nat))) (wr := ([] : va_W)) (As := []) (rest := [.ref q]) (w := fun f => uW cz q f) X hP hD hS hA (ct_u q _) (fun U V e hh => ⟨va_AO.moved (by rw [e]; exact Vm.Alike.refl _) hh.1, va_AOA.moved (by rw [e]; exact Vm.Alike.refl _) hh.2.1, va_Nw.same rfl e hh.2.2.1, va_Nw.same rfl e hh.2.2.2.1, va_Nw.same rfl e hh.2.2.2.2⟩) (fun U hW => ⟨va_AO.moved hW.alike nw0, va_AOA.moved hW.alike nw1, va_Nw.warmM hW nw2, va_Nw.warmM hW nw3, va_Nw.warmM hW nw4⟩) gm_130 gm_129 gm_108 gm_128 rfl hd_X8_init ⟨rfl, rfl⟩ ⟨Nat.le_of_ble_eq_true rfl, Nat.le_of_ble_eq_true rfl⟩ hl.1 rfl (Nat.le_of_ble_eq_true rfl) dL_law_4 ⟨Nat.le_of_ble_eq_true rfl, Nat.le_of_ble_eq_true rfl⟩ (fun f H locs hP hD hS => ?_)
  refine lv_astore_n (lv' := [(1, .ref q), (0, .ref b)]) hx hb dL_law_7 rfl hl (by decide) rfl (fun ls hl => ?_)
  refine n_new (ci := 9) (fs := [.int 0, .null, .null, .null, .null, .null, .int 0, .int 0, .int 0, .int 0, .int 0, .long 0, .int 0, .int 0, .int 0, .int 0, .null, .null, .null, .null, .null, .null, .null, .int 0, .int 0, .int 0, .int 0, .int 0, .null, .null, .null, .null, .null, .null, .null, .int 0, .int 0, .int 0, .int 0, .null, .null, .int 0, .int 0, .int 0, .int 0, .int 0, .null, .int 0, .int 0, .int 0, .int 0]) X hP hD hS hA tyX9 tyX9_ok iw_9 rfl gm_1328 gm_1329 gm_117 df_9 (Nat.le_of_ble_eq_true rfl) (Nat.le_of_ble_eq_true rfl) dL_law_8 (fun q2 H hP hD hS => ?_)
  refine lv_dup hx hb dL_law_11 rfl ?_
  refine n_callI (S := (Nat → Nat)) (wr := (([] : va_W) ++ uW cz q f)) (As := []) (rest := [.ref q2]) (w := fun f => mW cz q2 f) X hP hD hS hA (ct_m q2 _) (fun _ _ _ h => h) (fun _ _ => trivial) gm_1332 gm_1331 gm_117 gm_1330 rfl hd_X9_init ⟨rfl, rfl⟩ ⟨Nat.le_of_ble_eq_true rfl, Nat.le_of_ble_eq_true rfl⟩ hl.1 rfl (Nat.le_of_ble_eq_true rfl) dL_law_12 ⟨Nat.le_of_ble_eq_true rfl, Nat.le_of_ble_eq_true rfl⟩ (fun f2 H locs hP hD hS => ?_)
  refine lv_astore_n (lv' := [(2, .ref q2), (1, .ref q), (0, .ref b)]) hx hb dL_law_15 rfl hl (by decide) rfl (fun ls hl => ?_)
  refine lv_iconst (v := 0) hx hb dL_law_16 (by decide) ?_
  refine lv_istore_n (lv' := [(3, .int 0), (2, .ref q2), (1, .ref q), (0, .ref b)]) hx hb dL_law_17 rfl hl (by decide) rfl (fun ls hl => ?_)
  have hP1 := va_cellEq hP (k := 26) rfl (cell_im cz q f q2 f2)
  have hP2 := va_cellEq hP1 (k := 80) rfl (cell_pl cz q f q2 f2)
  have hD1 := hD.set (p := 26) (a := hh q f q2 f2 26) (e := cE (hh q f q2 f2) cz (tb 26) (i0 26) (g0 26)) rfl
  have hD2 := hD1.set (p := 80) (a := hh q f q2 f2 80) (e := cE (hh q f q2 f2) cz (tb 80) (i0 80) (g0 80)) rfl
  rw [w_eq cz q f q2 f2] at hD2
  have hP3 : va_P D vwCl (wH (hh q f q2 f2) cz i0 g0) H := by
    rw [← w_eq cz q f q2 f2]
    exact hP2
  obtain ⟨h, eh⟩ : ∃ h, h = hh q f q2 f2 := ⟨_, rfl⟩
  rw [← eh] at hP3 hD2
  have hDJ : DJ h := fun j k hj hk e => hD2.1 j k _ _ (wH_get h cz i0 g0 hj) (wH_get h cz i0 g0 hk) e
  have hge : ∀ q, hA0 h q → s.heap.size ≤ q := by
    intro a ha
    obtain ⟨j, hj, rfl⟩ := ha
    exact hD2.2 j _ (wH_get h cz i0 g0 hj)
  have hT : TH D h cz i0 g0 H := ⟨hP3, hDJ⟩
  refine va_forget (fun q hq => hS.2.2 q hq) ?_
  have hS2 : va_S (hA0 h) s.heap H [] := ⟨hS.1, fun q h1 _ => hS.2.1 q h1 (Nat.not_le.mpr h1), fun _ h => by cases h⟩
  refine W.widen (k := 600000) (n := 7302250) (Nat.le_of_ble_eq_true rfl) (Nat.le_of_ble_eq_true rfl) ?_
  have hl : lv_has ls 4 [(3, .int 0), (2, .ref (h 96)), (1, .ref (h 0)), (0, .ref b)] := by rw [eh]; exact hl
  rcases (show L = 6 ∨ L = 0 ∨ L = 1 ∨ L = 2 ∨ L = 3 ∨ L = 4 ∨ L = 5 by omega) with rfl | rfl | rfl | rfl | rfl | rfl | rfl
  · exact law_body X hr hlocks hX hbl hge hS2 RgF0 hT hl
  · exact law_exit X hr hlocks hX hbl hge hS2 (by decide) hl
  · exact law_exit X hr hlocks hX hbl hge hS2 (by decide) hl
  · exact law_exit X hr hlocks hX hbl hge hS2 (by decide) hl
  · exact law_exit X hr hlocks hX hbl hge hS2 (by decide) hl
  · exact law_exit X hr hlocks hX hbl hge hS2 (by decide) hl
  · exact law_exit X hr hlocks hX hbl hge hS2 (by decide) hl
