abbrev hA0 (h : Nat → Nat) : Nat → Prop := hA h
set_option maxRecDepth 100000 in
set_option maxHeartbeats 8000000 in
/-- THE LAW, from its entry -/
theorem whole_start {p : Program} {e : Env} {s : State} {m : MethodId} {below : List Frame} {meth : Method} {c : Code} (l : Launch) {b L : Nat} {xs : Nat → Int32} (hL : L ≤ 3072) (C0 : lw_At p s m meth c b L xs) : W p l e room_1 s m #[Value.ref b] below meth c s.heap [] 0 0 (lw_Z below #[Value.ref b] s) (entryFrame m ([Value.ref b] : List Value).toArray 4) := by
  obtain ⟨hx, hb, hr, hml, hown, hts, hX, hbl, hlocks, hgv⟩ := C0
  have hGW : ∀ w ∈ GW, w.before #[Value.ref b] s = true := fun w hw => hts w (GW_tbl w hw)
  have nw0 : va_AO "UncutTale$Story" s := va_AO.of (hts (Cond.arrayOver (.object "UncutTale$Story")) (List.mem_of_getElem? (i := 292) (by decide +kernel)))
  have nw1 : va_AOA .int s := hts (Cond.arrayOver (.array .int)) (List.mem_of_getElem? (i := 359) (by decide +kernel))
  have nw2 : va_Nw (.methodLinkNest "UncutTale" 18 yX6_init "UncutTale") s := va_Nw.of rfl (hts (Cond.methodLinkNest "UncutTale" 18 yX6_init "UncutTale") (List.mem_of_getElem? (i := 152) (by decide +kernel)))
  have nw3 : va_Nw (.methodLinkNest "UncutTale" 45 yX5_init "UncutTale") s := va_Nw.of rfl (hts (Cond.methodLinkNest "UncutTale" 45 yX5_init "UncutTale") (List.mem_of_getElem? (i := 295) (by decide +kernel)))
  have nw4 : va_Nw (.methodLinkNest "UncutTale" 9 yX7_init "UncutTale") s := va_Nw.of rfl (hts (Cond.methodLinkNest "UncutTale" 9 yX7_init "UncutTale") (List.mem_of_getElem? (i := 136) (by decide +kernel)))
  obtain ⟨c0, iS0, hKn0⟩ := u_known (C := RX0) (T := TX0) (N := 10) (n := 10) hGW iw_0 (hGW _ gm_312)
  obtain ⟨c1, iS1, hKn1⟩ := u_known (C := RX1) (T := TX1) (N := 6) (n := 6) hGW iw_1 (hGW _ gm_417)
  obtain ⟨c2, iS2, hKn2⟩ := u_known (C := RX2) (T := TX2) (N := 5) (n := 5) hGW iw_2 (hGW _ gm_392)
  obtain ⟨c3, iS3, hKn3⟩ := u_known (C := RX3) (T := TX3) (N := 8) (n := 8) hGW iw_3 (hGW _ gm_260)
  obtain ⟨c4, iS4, hKn4⟩ := u_known (C := RX4) (T := TX4) (N := 9) (n := 9) hGW iw_4 (hGW _ gm_353)
  obtain ⟨c5, iS5, hKn5⟩ := u_known (C := RX5) (T := TX5) (N := 3) (n := 3) hGW iw_5 (hGW _ gm_294)
  obtain ⟨c6, iS6, hKn6⟩ := u_known (C := RX6) (T := TX6) (N := 18) (n := 18) hGW iw_6 (hGW _ gm_151)
  obtain ⟨c7, iS7, hKn7⟩ := u_known (C := RX7) (T := TX7) (N := 2) (n := 2) hGW iw_7 (hGW _ gm_135)
  obtain ⟨c8, iS8, hKn8⟩ := u_known (C := RX8) (T := TX8) (N := 15) (n := 15) hGW iw_8 (hGW _ gm_127)
  obtain ⟨c9, iS9, hKn9⟩ := u_known (C := RX9) (T := TX9) (N := 51) (n := 51) hGW iw_9 (hGW _ gm_1329)
  obtain ⟨dC, dI, hKc⟩ : ∃ (dC : Nat → ClassId) (dI : Nat → Nat → Nat), ∀ (k : Nat) (q : vw_C), vwCl[k]? = some q → u_Kn s q.1 q.2.1 q.2.2 (dC k) (dI k) := by
    refine ⟨fun k => match k with | 0 => c0 | 1 => c1 | 2 => c2 | 3 => c3 | 4 => c4 | 5 => c5 | 6 => c6 | 7 => c7 | 8 => c8 | _ => c9, fun k => match k with | 0 => iS0 | 1 => iS1 | 2 => iS2 | 3 => iS3 | 4 => iS4 | 5 => iS5 | 6 => iS6 | 7 => iS7 | 8 => iS8 | _ => iS9, ?_⟩
    intro k q hq
    match k, hq with
    | 0, hq => cases hq; exact hKn0
    | 1, hq => cases hq; exact hKn1
    | 2, hq => cases hq; exact hKn2
    | 3, hq => cases hq; exact hKn3
    | 4, hq => cases hq; exact hKn4
    | 5, hq => cases hq; exact hKn5
    | 6, hq => cases hq; exact hKn6
    | 7, hq => cases hq; exact hKn7
    | 8, hq => cases hq; exact hKn8
    | 9, hq => cases hq; exact hKn9
    | k + 10, hq => simp [vwCl] at hq
  obtain ⟨z0, k0, p0, a0, b0, d0⟩ := Cond.arrayClass_spec (hGW (.arrayClass .int) gm_258)
  obtain ⟨z1, k1, p1, a1, b1, d1⟩ := Cond.arrayClass_spec (hGW (.arrayClass .byte) gm_149)
  obtain ⟨z2, k2, p2, a2, b2, d2⟩ := Cond.arrayClass_spec (hGW (.arrayClass .boolean) gm_309)
  obtain ⟨z3, k3, p3, a3, b3, d3⟩ := Cond.arrayClass_spec (hGW (.arrayClass .long) gm_310)
  obtain ⟨p4, z4, k4, e4, -, b4, d4, a4⟩ := Cond.arrayOver_spec (va_AO.use (A := #[]) nw0)
  obtain ⟨p5, z5, k5, e5, b5, d5, a5⟩ := Cond.arrayOver_specA (va_AOA.use (A := #[]) nw1)
  obtain ⟨cz, hcz⟩ : ∃ cz : Nat → ClassId, cz = fun k => match k with | 0 => z0 | 1 => z1 | 2 => z2 | 3 => z3 | 4 => z4 | _ => z5 := ⟨_, rfl⟩
  have hK : va_K (dC, dI) vwCl (tyL cz) s := by
    refine ⟨hKc, fun k q hq => ?_⟩
    rw [hcz] at hq
    match k, hq with
    | 0, hq => cases hq; exact ⟨fun n z => ⟨fun k h => (by cases h), k0, b0, p0, d0⟩, a0⟩
    | 1, hq => cases hq; exact ⟨fun n z => ⟨fun k h => (by cases h), k1, b1, p1, d1⟩, a1⟩
    | 2, hq => cases hq; exact ⟨fun n z => ⟨fun k h => (by cases h), k2, b2, p2, d2⟩, a2⟩
    | 3, hq => cases hq; exact ⟨fun n z => ⟨fun k h => (by cases h), k3, b3, p3, d3⟩, a3⟩
    | 4, hq => cases hq; exact ⟨fun n z => ⟨fun k h => (by cases h), k4, b4, p4, d4⟩, k4, p4, b4, d4, e4, a4⟩
    | 5, hq => cases hq; exact ⟨fun n z => ⟨fun k h => (by cases h), k5, b5, p5, d5⟩, a5⟩
    | k + 6, hq => simp [tyL] at hq
  obtain ⟨D, hD0⟩ : ∃ D : va_G, D = (dC, dI) := ⟨_, rfl⟩
  rw [← hD0] at hK
  have X : Cxt p s m c #[Value.ref b] cL_law 4 "UncutTaleLaw" D cz := ⟨hx, hb, hml, hown, hGW, hK⟩
  have hA : ∀ q : Nat, s.heap.size ≤ q → (fun q : Nat => s.heap.size ≤ q) q := fun _ h => h
  have hS : va_S (fun q : Nat => s.heap.size ≤ q) s.heap s.heap [] := va_S.rf
  have hP : va_P D vwCl [] s.heap := fun k q h => by simp at h
  have hD : va_D (fun q : Nat => s.heap.size ≤ q) [] := ⟨fun i j p q h => by simp at h, fun k q h => by simp at h⟩
  have hl := lv_entry ([.ref b]) (n := 4) (Nat.le_of_ble_eq_true rfl)
  rw [lg_entry_eq]
  generalize (lg_sl ([.ref b]) ++ List.replicate (4 - (lg_sl ([.ref b])).length) Slot.unset).toArray = ls at hl ⊢
  have hl : lv_has ls 4 [(0, .ref b)] := hl
  refine n_new (ci := 8) (fs := [.null, .null, .null, .null, .null, .null, .null, .null, .null, .null, .null, .null, .int 0, .int 0, .int 0]) X hP hD hS hA tyX8 tyX8_ok iw_8 rfl gm_126 gm_127 gm_108 df_8 (Nat.le_of_ble_eq_true rfl) (Nat.le_of_ble_eq_true rfl) dL_law_0 (fun q H hP hD hS => ?_)
  refine lv_dup hx hb dL_law_3 rfl ?_
  refine n_callI (S := ((Nat → Nat) × (Nat → Nat → Nat))) (wr := ([] : va_W)) (As := []) (rest := [.ref q]) (w := fun f => uW cz q f) X hP hD hS hA (ct_u q _) (fun U V e hh => ⟨va_AO.moved (by rw [e]; exact Vm.Alike.refl _) hh.1, va_AOA.moved (by rw [e]; exact Vm.Alike.refl _) hh.2.1, va_Nw.same rfl e hh.2.2.1, va_Nw.same rfl e hh.2.2.2.1, va_Nw.same rfl e hh.2.2.2.2⟩) (fun U hW => ⟨va_AO.moved hW.alike nw0, va_AOA.moved hW.alike nw1, va_Nw.warmM hW nw2, va_Nw.warmM hW nw3, va_Nw.warmM hW nw4⟩) gm_130 gm_129 gm_108 gm_128 rfl hd_X8_init ⟨rfl, rfl⟩ ⟨Nat.le_of_ble_eq_true rfl, Nat.le_of_ble_eq_true rfl⟩ hl.1 rfl (Nat.le_of_ble_eq_true rfl) dL_law_4 ⟨Nat.le_of_ble_eq_true rfl, Nat.le_of_ble_eq_true rfl⟩ (fun f H locs hP hD hS => ?_)
  refine lv_astore_n (lv' := [(1, .ref q), (0, .ref b)]) hx hb dL_law_7 rfl hl (by decide) rfl (fun ls hl => ?_)
  refine n_new (ci := 9) (fs := [.int 0, .null, .null, .null, .null, .null, .int 0, .int 0, .int 0, .int 0, .int 0, .long 0, .int 0, .int 0, .int 0, .int 0, .null, .null, .null, .null, .null, .null, .null, .int 0, .int 0, .int 0, .int 0, .int 0, .null, .null, .null, .null, .null, .null, .null, .int 0, .int 0, .int 0, .int 0, .null, .null, .int 0, .int 0, .int 0, .int 0, .int 0, .null, .int 0, .int 0, .int 0, .int 0]) X hP hD hS hA tyX9 tyX9_ok iw_9 rfl gm_1328 gm_1329 gm_117 df_9 (Nat.le_of_ble_eq_true rfl) (Nat.le_of_ble_eq_true rfl) dL_law_8 (fun q2 H hP hD hS => ?_)
  refine lv_dup hx hb dL_law_11 rfl ?_
  refine n_callI (S := (Nat → Nat)) (wr := (([] : va_W) ++ uW cz q f)) (As := []) (rest := [.ref q2]) (w := fun f => mW cz q2 f) X hP hD hS hA (ct_m q2 _) (fun _ _ _ h => h) (fun _ _ => trivial) gm_1332 gm_1331 gm_117 gm_1330 rfl hd_X9_init ⟨rfl, rfl⟩ ⟨Nat.le_of_ble_eq_true rfl, Nat.le_of_ble_eq_true rfl⟩ hl.1 rfl (Nat.le_of_ble_eq_true rfl) dL_law_12 ⟨Nat.le_of_ble_eq_true rfl, Nat.le_of_ble_eq_true rfl⟩ (fun f2 H locs hP hD hS => ?_)
  refine lv_astore_n (lv' := [(2, .ref q2), (1, .ref q), (0, .ref b)]) hx hb dL_law_15 rfl hl (by decide) rfl (fun ls hl => ?_)
  refine lv_iconst (v := 0) hx hb dL_law_16 (by decide) ?_
  refine lv_istore_n (lv' := [(3, .int 0), (2, .ref q2), (1, .ref q), (0, .ref b)]) hx hb dL_law_17 rfl hl (by decide) rfl (fun ls hl => ?_)
  rw [w_list] at hP hD
  have hP1 := va_cellEq hP (k := 26) rfl (cell_im cz q f q2 f2)
  have hP2 := va_cellEq hP1 (k := 80) rfl (cell_pl cz q f q2 f2)
  have hD1 := hD.set (p := 26) (a := hh q f q2 f2 26) (e := cE (hh q f q2 f2) cz (tb 26) (i0 26) (g0 26)) rfl
  have hD2 := hD1.set (p := 80) (a := hh q f q2 f2 80) (e := cE (hh q f q2 f2) cz (tb 80) (i0 80) (g0 80)) rfl
  rw [w_eq cz q f q2 f2] at hD2
  have hP3 : va_P D vwCl (wH (hh q f q2 f2) cz i0 g0) H := by
    rw [← w_eq cz q f q2 f2]
    exact hP2
  obtain ⟨h, eh⟩ : ∃ h, h = hh q f q2 f2 := ⟨_, rfl⟩
  rw [← eh] at hP3 hD2
  have hDJ : DJ h := fun j k hj hk e => hD2.1 j k _ _ (wH_get h cz i0 g0 hj) (wH_get h cz i0 g0 hk) e
  have hge : ∀ q, hA0 h q → s.heap.size ≤ q := by
    intro a ha
    obtain ⟨j, hj, rfl⟩ := ha
    exact hD2.2 j _ (wH_get h cz i0 g0 hj)
  have hT : TH D h cz i0 g0 H := ⟨hP3, hDJ⟩
  refine va_forget (fun q hq => hS.2.2 q hq) ?_
  have hS2 : va_S (hA0 h) s.heap H [] := ⟨hS.1, fun q h1 _ => hS.2.1 q h1 (Nat.not_le.mpr h1), fun _ h => by cases h⟩
  refine W.widen (k := 600000) (n := 7302250) (Nat.le_of_ble_eq_true rfl) (Nat.le_of_ble_eq_true rfl) ?_
  have hl : lv_has ls 4 [(3, .int 0), (2, .ref (h 96)), (1, .ref (h 0)), (0, .ref b)] := by rw [eh]; exact hl
  obtain ⟨z, Y⟩ := EV_start hts hgv hge
  exact law_loop X Y hr hlocks hX hbl hge hL _ 0 i0 g0 H [] ls (rg_k (by decide)) RgF0 REL0 hT hS2 hl (Nat.lt_succ_self _)
