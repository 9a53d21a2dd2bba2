/-! rows of constructors: a world as a list, its cells new -/
def nP (D : va_G) (cz : Nat → ClassId) (sz : Nat) (w0 : va_W) (NW : State → Prop) (av : List Value) : Array Value → State → Prop := va_Pc av (fun U => U.heap.size = sz ∧ va_P D vwCl w0 U.heap ∧ va_K D vwCl (tyL cz) U ∧ va_D (fun _ => True) w0 ∧ NW U)
def nB {S : Type} (D : va_G) (cz : Nat → ClassId) (w : S → va_W) (A : Nat → Prop) (u : S) (t : State) : Prop := va_P D vwCl (w u) t.heap ∧ va_K D vwCl (tyL cz) t ∧ va_D A (w u)
abbrev CtN (S : Type) (l : Launch) (y : MethodName) (cc : ByteArray) (n : Nat) (rm : Room) (D : va_G) (cz : Nat → ClassId) (sz : Nat) (w0 : va_W) (NW : State → Prop) (av : List Value) (w : S → va_W) (mc ms : Nat) : Prop := Met l y (uw y cc n none) rm (nP D cz sz w0 NW av) (va_Qv (fun _ : S => True) (nB D cz w (va_A w0 sz)) (va_A w0 sz)) mc ms (va_A w0 sz)
def noNW : State → Prop := fun _ => True
section RowsN
variable {p : Program} {l : Launch} {e : Env} {R : Room} {s : State} {m : MethodId} {args : Array Value} {below : List Frame} {meth : Method} {c : Code} {H H0 : Heap} {locs : List Loc} {cells slots : Nat} {Q : State → Prop} {cc : ByteArray} {nL : Nat} {own : String} {D : va_G} {cz : Nat → ClassId} {pc : Nat} {ls : Array Slot} {rest : List Value} {A : Nat → Prop} {ws : va_W} {a : Nat}
theorem n_putF (X : Cxt p s m c args cc nL own D cz) (hin : meth.name = "<init>") (hP : va_P D vwCl ws H) (hD : va_D A ws) (hS : va_S A H0 H locs) (q0 k : Nat) {index ci : Nat} {ty : FieldType} (F : QK own index ci k ty) {fs : List Value} (he : ws[q0]? = some (a, .inr (ci, fs))) {v : Value} (hn : narrow ty v = v) (hfit : fits ty v = true) (hl : k < fs.length) (hdg : decode cc pc = .ok (.putfield index, 3))
    (kk : ∀ (H1 : Heap) (locs1 : List Loc), va_P D vwCl (ws.set q0 (a, .inr (ci, fs.set k v))) H1 → va_D A (ws.set q0 (a, .inr (ci, fs.set k v))) → va_S A H0 H1 locs1 → W p l e R s m args below meth c H1 locs1 cells slots Q (F0 m (pc + 3) ls rest)) : W p l e R s m args below meth c H locs cells slots Q (F0 m pc ls (v :: .ref a :: rest)) := by
  obtain ⟨hx, hb, -, hown, hts, hK⟩ := X
  obtain ⟨C, T, N, t0, hc, hk, hw, hlk, hty, hnm, hfin, hdecl, hpd⟩ := F
  exact va_putF (D := D) (ci := ci) (v := v) (C := C) (T := T) (N := N) hx hb hts hw t0 hty hnm hown hK hP hD hS q0 he hc k hk (hts _ hlk) (fun _ q => q) hfin hin hdecl hpd hn hfit hl hdg kk
theorem n_put (X : Cxt p s m c args cc nL own D cz) (hP : va_P D vwCl ws H) (hD : va_D A ws) (hS : va_S A H0 H locs) (q0 k : Nat) {index ci : Nat} {ty : FieldType} (F : PK own index ci k ty) {fs : List Value} (he : ws[q0]? = some (a, .inr (ci, fs))) {v : Value} (hn : narrow ty v = v) (hfit : fits ty v = true) (hl : k < fs.length) (hdg : decode cc pc = .ok (.putfield index, 3))
    (kk : ∀ (H1 : Heap) (locs1 : List Loc), va_P D vwCl (ws.set q0 (a, .inr (ci, fs.set k v))) H1 → va_D A (ws.set q0 (a, .inr (ci, fs.set k v))) → va_S A H0 H1 locs1 → W p l e R s m args below meth c H1 locs1 cells slots Q (F0 m (pc + 3) ls rest)) : W p l e R s m args below meth c H locs cells slots Q (F0 m pc ls (v :: .ref a :: rest)) := by
  obtain ⟨hx, hb, -, hown, hts, hK⟩ := X
  obtain ⟨C, T, N, t0, hc, hk, hw, hlk, hty, hnm, hfin, hpd⟩ := F
  exact va_put (D := D) (ci := ci) (v := v) (C := C) (T := T) (N := N) hx hb hts hw t0 hty hnm hown hK hP hD hS q0 he hc k hk (hts _ hlk) (fun _ q => q) hfin hpd hn hfit hl hdg kk
theorem n_get (X : Cxt p s m c args cc nL own D cz) (hP : va_P D vwCl ws H) (q0 k : Nat) {index ci : Nat} (F : FK own index ci k) {fs : List Value} (he : ws[q0]? = some (a, .inr (ci, fs))) {v : Value} (hv : fs[k]? = some v) (hdg : decode cc pc = .ok (.getfield index, 3))
    (kk : W p l e R s m args below meth c H locs cells slots Q (F0 m (pc + 3) ls (v :: rest))) : W p l e R s m args below meth c H locs cells slots Q (F0 m pc ls (.ref a :: rest)) := by
  obtain ⟨hx, hb, -, hown, hts, hK⟩ := X
  obtain ⟨C, T, N, hc, hk, hw, hlk⟩ := F
  exact va_get (D := D) (ci := ci) (v := v) (C := C) (T := T) (N := N) hx hb hts hw hown hK hP q0 he hc k hk (hts _ hlk) (fun _ q => q) hv hdg kk
/-- the class of an array is told by its name -/
theorem cz_eq {tys : List (ClassId × FieldType)} {k t : Nat} {cA cB : ClassId} {ty : FieldType} (hK : va_K D vwCl (tyL cz) s) (hK2 : va_K D vwCl tys s) (h1 : (tyL cz)[k]? = some (cA, ty)) (h2 : tys[t]? = some (cB, ty)) : cB = cA := by
  have a1 := (hK.2 k _ h1).2
  have a2 := (hK2.2 t _ h2).2
  cases ty with
  | object C =>
    obtain ⟨_, _, _, _, _, e1⟩ := a1
    obtain ⟨_, _, _, _, _, e2⟩ := a2
    exact Option.some.inj (e2.symm.trans e1)
  | _ => exact Option.some.inj (Eq.trans (Eq.symm a2) a1)
theorem n_newa (X : Cxt p s m c args cc nL own D cz) (hP : va_P D vwCl ws H) (hD : va_D A ws) (hS : va_S A H0 H locs) (hA : ∀ q, H0.size ≤ q → A q) (kd : Nat) {atype : ArrayType} {ty : FieldType} (hty : newarray.typeOf atype = ty) (hk : (tyL cz)[kd]? = some (cz kd, ty)) (hw : Cond.arrayClass ty ∈ GW) {n : Int32} {N' : Nat} {a0 : vp_A} (ha : ∀ cA : ClassId, vp_cell cA a0 = arrV cA N' (fun _ => defaultValue ty)) (hn : ¬ n < 0) (hN : n.toNatClampNeg = N') (hbytes : N' * componentBytes ty ≤ 536870912) (hcells : cells + 1 ≤ R.cells) (hslots : slots + N' ≤ R.slots) (hdg : decode cc pc = .ok (.newarray atype, 2))
    (kk : ∀ (q : Nat) (H1 : Heap), va_P D vwCl (ws ++ [(q, .inl (cz kd, a0))]) H1 → va_D A (ws ++ [(q, .inl (cz kd, a0))]) → va_S A H0 H1 locs → W p l e R s m args below meth c H1 locs (cells + 1) (slots + N') Q (F0 m (pc + 2) ls (.ref q :: rest))) : W p l e R s m args below meth c H locs cells slots Q (F0 m pc ls (.int n :: rest)) := by
  obtain ⟨hx, hb, -, hown, hts, hK⟩ := X
  refine va_newa hx hb (by rw [hty]; exact hts _ hw) hty hK hP hD hS hA ha hn hN hbytes hcells hslots hdg (fun q cA H1 hK1 hP1 hD1 hS1 => ?_)
  have e : cA = cz kd := cz_eq (k := kd) (t := (tyL cz).length) hK hK1 hk (by simp)
  rw [e] at hP1 hD1
  exact kk q H1 hP1 hD1 hS1
theorem n_newq (X : Cxt p s m c args cc nL own D cz) (hP : va_P D vwCl ws H) (hD : va_D A ws) (hS : va_S A H0 H locs) (hA : ∀ q, H0.size ≤ q → A q) (kd : Nat) {C : String} {index : Nat} (hk : (tyL cz)[kd]? = some (cz kd, .object C)) (hcl : Cond.classLink own index C ∈ GW) (hover : va_AO C s) {n : Int32} {N' : Nat} (hn : ¬ n < 0) (hN : n.toNatClampNeg = N') (hbytes : N' * 4 ≤ 536870912) (hcells : cells + 1 ≤ R.cells) (hslots : slots + N' ≤ R.slots) (hdg : decode cc pc = .ok (.anewarray index, 3))
    (kk : ∀ (q : Nat) (H1 : Heap), va_P D vwCl (ws ++ [(q, .inl (cz kd, N', .inr (.inr (.inr (.inr (fun _ => none))))))]) H1 → va_D A (ws ++ [(q, .inl (cz kd, N', .inr (.inr (.inr (.inr (fun _ => none))))))]) → va_S A H0 H1 locs → W p l e R s m args below meth c H1 locs (cells + 1) (slots + N') Q (F0 m (pc + 3) ls (.ref q :: rest))) : W p l e R s m args below meth c H locs cells slots Q (F0 m pc ls (.int n :: rest)) := by
  obtain ⟨hx, hb, -, hown, hts, hK⟩ := X
  refine va_newq hx hb hown (hts _ hcl) hover hK hP hD hS hA hn hN hbytes hcells hslots hdg (fun q cA H1 hK1 hP1 hD1 hS1 => ?_)
  have e : cA = cz kd := cz_eq (k := kd) (t := (tyL cz).length) hK hK1 hk (by simp)
  rw [e] at hP1 hD1
  exact kk q H1 hP1 hD1 hS1
theorem n_new (X : Cxt p s m c args cc nL own D cz) (hP : va_P D vwCl ws H) (hD : va_D A ws) (hS : va_S A H0 H locs) (hA : ∀ q, H0.size ≤ q → A q) {C : String} {T : u_T} {N ci index : Nat} (t0 : Nat → FieldType) (hty : ∀ k, k < N → parseFieldDescriptor (T k).2.2.1 = some (t0 k)) (hw : ∀ w ∈ u_ws C T N, w ∈ GW) (hc : vwCl[ci]? = some (C, T, N)) (hcl : Cond.classLink own index C ∈ GW) (hi : Cond.instantiable C N ∈ GW) (hini : Cond.initialized C ∈ GW) {fs : List Value} (hfs : ∀ j, j < N → defaultValue (t0 j) = vp_V fs j) (hcells : cells + 1 ≤ R.cells) (hslots : slots + N ≤ R.slots) (hdg : decode cc pc = .ok (.new index, 3))
    (kk : ∀ (q : Nat) (H1 : Heap), va_P D vwCl (ws ++ [(q, .inr (ci, fs))]) H1 → va_D A (ws ++ [(q, .inr (ci, fs))]) → va_S A H0 H1 locs → W p l e R s m args below meth c H1 locs (cells + 1) (slots + N) Q (F0 m (pc + 3) ls (.ref q :: rest))) : W p l e R s m args below meth c H locs cells slots Q (F0 m pc ls rest) := by
  obtain ⟨hx, hb, -, hown, hts, hK⟩ := X
  exact va_new (ci := ci) (fs := fs) (C := C) (T := T) (N := N) hx hb hts hw t0 hty hown (hts _ hcl) (hts _ hi) (hts _ hini) hK hP hD hS hA hc hfs hcells hslots hdg kk
theorem n_obj (X : Cxt p s m c args cc nL own D cz) {index : Nat} (hl : Cond.methodLink own index objectInit ∈ GW) (hi : Cond.instanceMethod objectInit ∈ GW) (hc : Cond.code objectInit ⟨#[0xb1]⟩ 1 none ∈ GW) (hz : ls.size = nL) (hdg : decode cc pc = .ok (.invokespecial index, 3)) (hf : 1 ≤ R.frames) (hlo : (rest.map fun v => v.category).sum + 12 ≤ R.locals)
    (kk : W p l e R s m args below meth c H locs cells slots Q (F0 m (pc + 3) ls rest)) : W p l e R s m args below meth c H locs cells slots Q (F0 m pc ls (.ref a :: rest)) := by
  obtain ⟨hx, hb, hml, hown, hts, hK⟩ := X
  refine W.objInit hx hb hown (hts _ hl) (hts _ hi) (hts _ hc) rfl (by rw [hml]; exact hz) rfl hdg hf (by show 2 * 0 + _ + 12 ≤ _; omega) ?_
  exact W.eq (g2 := F0 m (pc + 3) ls rest) rfl kk
/-- behind a call: the last cell of the world was the callee's -/
theorem join_last {wr w1 : va_W} {b : Nat} {e0 : va_E} {H1 : Heap} (hP : va_P D vwCl (wr ++ [(b, e0)]) H) (hD : va_D A (wr ++ [(b, e0)])) (hk : ∀ q : Nat, q < H.size → ¬ va_A [(b, e0)] H.size q → H1[q]? = H[q]?) (hF : ∀ q, va_A [(b, e0)] H.size q → A q) (hP1 : va_P D vwCl w1 H1) (hD1 : va_D (va_A [(b, e0)] H.size) w1) : va_P D vwCl (wr ++ w1) H1 ∧ va_D A (wr ++ w1) := by
  refine va_join hP hD [wr.length] (List.range wr.length) (by simp) ?_ ?_ ?_ hk hF hP1 hD1
  · apply List.ext_getElem?
    intro k
    by_cases hk : k < wr.length
    · rw [List.getElem?_map, List.getElem?_map, List.getElem?_range hk, Option.map_some, List.getElem?_append_left hk, List.getElem?_eq_getElem hk]
      rfl
    · rw [List.getElem?_eq_none (by simp; omega), List.getElem?_eq_none (by simp; omega)]
  · suffices h : ∀ l : List Nat, l.Nodup → va_nd l = true by exact h _ List.nodup_range
    intro l hl
    induction l with
    | nil => rfl
    | cons x l ih =>
      rw [List.nodup_cons] at hl
      simp [va_nd, hl.1, ih hl.2]
  · intro i hi
    have := List.mem_range.mp hi
    simp
    omega
theorem free_last {wr : va_W} {b : Nat} {e0 : va_E} (hD : va_D A (wr ++ [(b, e0)])) (hS : va_S A H0 H locs) (hA : ∀ q, H0.size ≤ q → A q) : ∀ q, va_A [(b, e0)] H.size q → A q := va_free (wc := [(b, e0)]) hD hS hA [wr.length] (by simp)
theorem nP_blind {sz : Nat} {w0 : va_W} {NW : State → Prop} (hNW : ∀ U V : State, U.vm = V.vm → NW U → NW V) (av : List Value) : FrameBlind (nP D cz sz w0 NW av) := by
  intro a U fr mk q
  obtain ⟨q0, q1, q2, q3, q4, q5⟩ := q
  exact ⟨q0, q1, q2, va_K.moved (u := U) (U := U.calling fr mk a) (Vm.Alike.refl U.vm) q3, q4, hNW U _ rfl q5⟩
theorem n_callI {S : Type} {y : MethodName} {bytes : ByteArray} {maxL index mc ms : Nat} {rm : Room} {wr : va_W} {b : Nat} {e0 : va_E} {w : S → va_W} {As st : List Value} {NW : State → Prop} (X : Cxt p s m c args cc nL own D cz) (hP : va_P D vwCl (wr ++ [(b, e0)]) H) (hD : va_D A (wr ++ [(b, e0)])) (hS : va_S A H0 H locs) (hA : ∀ q, H0.size ≤ q → A q) (hM : CtN S l y bytes maxL rm D cz H.size [(b, e0)] NW (.ref b :: As) w mc ms) (hN1 : ∀ U V : State, U.vm = V.vm → NW U → NW V) (hN2 : ∀ U : State, s.WarmedH U.vm → NW U) (hc : Cond.code y bytes maxL none ∈ GW) (him : Cond.instanceMethod y ∈ GW) (hini : Cond.initialized y.cls ∈ GW) (hl : Cond.methodLink own index y ∈ GW) (hy : y.name = "<init>")
    (hd : y.cls ≠ "java/lang/invoke/MethodHandle" ∧ y.cls ≠ "java/lang/invoke/VarHandle" ∧ (parseMethodDescriptor y.desc).map (fun d => d.parameters.length) = some As.length) (hrc : rm.cells = mc ∧ rm.slots = ms) (hR : rm.frames + 1 ≤ R.frames ∧ 8 + (maxL + 11) + rm.locals ≤ R.locals) (hz : ls.size = nL) (hst : st = As.reverse ++ .ref b :: rest) (hro : (rest.map fun v => v.category).sum ≤ 8) (hdg : decode cc pc = .ok (.invokespecial index, 3)) (hcs : cells + mc ≤ R.cells ∧ slots + ms ≤ R.slots)
    (kk : ∀ (u : S) (H1 : Heap) (locs1 : List Loc), va_P D vwCl (wr ++ w u) H1 → va_D A (wr ++ w u) → va_S A H0 H1 locs1 → W p l e R s m args below meth c H1 locs1 (cells + mc) (slots + ms) Q (F0 m (pc + 3) ls rest)) : W p l e R s m args below meth c H locs cells slots Q (F0 m pc ls st) := by
  obtain ⟨hx, hb, hml, hown, hts, hK⟩ := X
  have hFc := free_last hD hS hA
  have hPc : va_P D vwCl [(b, e0)] H := hP.sub [wr.length] (by simp)
  have hDc : va_D A [(b, e0)] := hD.sub [wr.length] (by simp [va_nd]) (by simp)
  refine va_callv (va_runI (As := As) (rest := rest) ⟨hx, hb, hml, hown, hts⟩ hM ⟨callB_of As.length hts (uw_in hc) rfl hrc.1 hrc.2 (hts _ hini) (hts _ hl) hd hR, hy, hts _ him⟩ ⟨nP_blind hN1 _, fun U hU hW => ⟨rfl, by rw [hU], by rw [hU]; exact hPc, va_K.moved hW.alike hK, hDc.weaken (fun _ _ _ _ => trivial), hN2 U hW⟩⟩ rfl rfl hz hst (lv_room hro) hdg hcs) hS (fun q _ h => hFc q h) hFc (fun u t H1 locs1 ht hvm hw hB hz1 hk1 hS1 => ?_)
  obtain ⟨hP1, -, hD1⟩ := hB
  rw [ht] at hP1
  obtain ⟨hP2, hD2⟩ := join_last hP hD hk1 hFc hP1 hD1
  exact kk u H1 locs1 hP2 hD2 hS1
theorem n_callN {S : Type} {y : MethodName} {host : String} {bytes : ByteArray} {maxL index mc ms : Nat} {rm : Room} {wr : va_W} {b : Nat} {e0 : va_E} {w : S → va_W} {As st : List Value} {NW : State → Prop} (X : Cxt p s m c args cc nL own D cz) (hP : va_P D vwCl (wr ++ [(b, e0)]) H) (hD : va_D A (wr ++ [(b, e0)])) (hS : va_S A H0 H locs) (hA : ∀ q, H0.size ≤ q → A q) (hM : CtN S l y bytes maxL rm D cz H.size [(b, e0)] NW (.ref b :: As) w mc ms) (hN1 : ∀ U V : State, U.vm = V.vm → NW U → NW V) (hN2 : ∀ U : State, s.WarmedH U.vm → NW U) (hc : Cond.code y bytes maxL none ∈ GW) (him : Cond.instanceMethod y ∈ GW) (hini : Cond.initialized y.cls ∈ GW) (hl : va_Nw (.methodLinkNest own index y host) s) (hy : y.name = "<init>")
    (hd : y.cls ≠ "java/lang/invoke/MethodHandle" ∧ y.cls ≠ "java/lang/invoke/VarHandle" ∧ (parseMethodDescriptor y.desc).map (fun d => d.parameters.length) = some As.length) (hrc : rm.cells = mc ∧ rm.slots = ms) (hR : rm.frames + 1 ≤ R.frames ∧ 8 + (maxL + 11) + rm.locals ≤ R.locals) (hz : ls.size = nL) (hst : st = As.reverse ++ .ref b :: rest) (hro : (rest.map fun v => v.category).sum ≤ 8) (hdg : decode cc pc = .ok (.invokespecial index, 3)) (hcs : cells + mc ≤ R.cells ∧ slots + ms ≤ R.slots)
    (kk : ∀ (u : S) (H1 : Heap) (locs1 : List Loc), va_P D vwCl (wr ++ w u) H1 → va_D A (wr ++ w u) → va_S A H0 H1 locs1 → W p l e R s m args below meth c H1 locs1 (cells + mc) (slots + ms) Q (F0 m (pc + 3) ls rest)) : W p l e R s m args below meth c H locs cells slots Q (F0 m pc ls st) := by
  obtain ⟨hx, hb, hml, hown, hts, hK⟩ := X
  have hFc := free_last hD hS hA
  have hPc : va_P D vwCl [(b, e0)] H := hP.sub [wr.length] (by simp)
  have hDc : va_D A [(b, e0)] := hD.sub [wr.length] (by simp [va_nd]) (by simp)
  refine va_callv (va_runIN (As := As) (rest := rest) ⟨hx, hb, hml, hown, hts⟩ hM ⟨va_cnB As.length hts (uw_in hc) rfl hrc.1 hrc.2 hl (hts _ hini) hd hR, hy, hts _ him⟩ ⟨nP_blind hN1 _, fun U hU hW => ⟨rfl, by rw [hU], by rw [hU]; exact hPc, va_K.moved hW.alike hK, hDc.weaken (fun _ _ _ _ => trivial), hN2 U hW⟩⟩ rfl rfl hz hst (lv_room hro) hdg hcs) hS (fun q _ h => hFc q h) hFc (fun u t H1 locs1 ht hvm hw hB hz1 hk1 hS1 => ?_)
  obtain ⟨hP1, -, hD1⟩ := hB
  rw [ht] at hP1
  obtain ⟨hP2, hD2⟩ := join_last hP hD hk1 hFc hP1 hD1
  exact kk u H1 locs1 hP2 hD2 hS1
theorem n_ret {S : Type} {w : S → va_W} {w0 : va_W} {sz mc ms : Nat} (X : Cxt p s m c args cc nL own D cz) (hr : meth.sig.returnType = none) (hlk : meth.locks = false) (u : S) (hP : va_P D vwCl (w u) H) (hD : va_D (va_A w0 sz) (w u)) (hS : va_S (va_A w0 sz) s.heap H locs) (hc : cells ≤ mc) (hs : slots ≤ ms) (hdg : decode cc pc = .ok (.return_, 1)) : W p l e R s m args below meth c H locs cells slots (MQ below (va_Qv (fun _ : S => True) (nB D cz w (va_A w0 sz)) (va_A w0 sz)) args s mc ms (va_A w0 sz)) (F0 m pc ls []) :=
  W.widen hc hs (W.vret X.1 X.2.1 hr (fun t ht hW => ⟨⟨u, rfl, trivial, by rw [ht]; exact hP, va_K.moved hW.alike X.2.2.2.2.2, hD⟩, hS.F ht⟩) hS.2.2 hdg hlk)
end RowsN
theorem n_entry {S : Type} {l : Launch} {y : MethodName} {cc : ByteArray} {n : Nat} {rm : Room} {D : va_G} {cz : Nat → ClassId} {sz : Nat} {w0 : va_W} {NW : State → Prop} {av : List Value} {w : S → va_W} {mc ms : Nat} (hy : plainName y.cls = true) (hyn : y.name = "<init>") (hav : (lg_sl av).length ≤ n)
    (body : ∀ (p : Program) (e : Env) (s : State) (m : MethodId) (args : Array Value) (below : List Frame) (meth : Method) (c : Code) (ls : Array Slot) (A : Nat → Prop), A = va_A w0 sz → Cxt p s m c args cc n y.cls D cz → meth.sig.returnType = none → meth.locks = false → meth.name = "<init>" → va_P D vwCl w0 s.heap → va_D A w0 → (∀ q, s.heap.size ≤ q → A q) → lv_has ls n (lv_args 0 av) → va_S A s.heap s.heap [] → NW s → W p l e rm s m args below meth c s.heap [] 0 0 (MQ below (va_Qv (fun _ : S => True) (nB D cz w A) A) args s mc ms A) (F0 m 0 ls [])) : CtN S l y cc n rm D cz sz w0 NW av w mc ms := by
  refine Met.ofW (cc := cc) (maxL := n) (ret := none) hy rfl ?_
  intro p e s m args below meth c s₁ B hml hv
  obtain ⟨rfl, hsz, hP, hK, hD0, hNW⟩ := hv
  have hts := atoms_spec (ws := uw y cc n none) B.pre
  have hl := lv_entry av (n := n) hav
  rw [lg_entry_eq]
  have hin : meth.name = "<init>" := by rw [(name_of_methodNamed B.named B.method).1, hyn]
  subst hsz
  exact body p e s m _ below meth c _ _ rfl ⟨B.exec, B.bytes, hml, findClass_of_methodNamed B.named, fun w hw => hts w (List.mem_cons_of_mem _ hw), hK⟩ B.returns B.notSynchronized hin hP hD0.self (fun q h => Or.inr h) hl va_S.rf hNW
theorem va_cellEq {D : va_G} {cl : List vw_C} {ws : va_W} {H : Heap} {k a : Nat} {cA : ClassId} {x y : vp_A} (hP : va_P D cl ws H) (he : ws[k]? = some (a, .inl (cA, x))) (hx : vp_cell cA x = vp_cell cA y) : va_P D cl (ws.set k (a, .inl (cA, y))) H := by
  intro j q hj
  by_cases hk : j = k
  · subst hk
    rw [List.getElem?_set_self (List.getElem?_eq_some_iff.mp he).1] at hj
    cases hj
    have := hP j _ he
    show H[a]? = some (vp_cell cA y)
    rw [← hx]
    exact this
  · rw [List.getElem?_set_ne (Ne.symm hk)] at hj
    exact hP j q hj
theorem arrV_congr (cA : ClassId) {n : Nat} {f g : Nat → Value} (h : ∀ j, j < n → f j = g j) : arrV cA n f = arrV cA n g := by
  unfold arrV
  congr 1
  apply Array.ext
  · simp
  · intro j h1 h2
    have hj : j < n := by simpa using h1
    simp [h j hj]
theorem va_AOA.moved {ty : FieldType} {u U : State} (hvm : u.vm.Alike U.vm) (h : va_AOA ty u) : va_AOA ty U := arrayOver_alikeB hvm h
theorem pl_all {l : List Nat} {f : Nat → va_E} {e : va_E} : va_pl l (vr_up f l e) = l.map (fun a => (a, e)) := by
  unfold va_pl
  apply List.map_congr_left
  intro a ha
  rw [vr_up_in ha]
section RowsN2
variable {p : Program} {l : Launch} {e : Env} {R : Room} {s : State} {m : MethodId} {args : Array Value} {below : List Frame} {meth : Method} {c : Code} {H H0 : Heap} {locs : List Loc} {cells slots : Nat} {Q : State → Prop} {cc : ByteArray} {nL : Nat} {own : String} {D : va_G} {cz : Nat → ClassId} {pc : Nat} {ls : Array Slot} {rest : List Value} {A : Nat → Prop} {ws : va_W} {a : Nat}
theorem n_mna (X : Cxt p s m c args cc nL own D cz) (hP : va_P D vwCl ws H) (hD : va_D A ws) (hS : va_S A H0 H locs) (hA : ∀ q, H0.size ≤ q → A q) {index : Nat} (hcl : Cond.classLink own index ("[" ++ (FieldType.array .int).toString) ∈ GW) (hover : va_AOA .int s) (hw : Cond.arrayClass .int ∈ GW) {n k : Int32} {N' K' : Nat} (hn : ¬ n < 0) (hk : ¬ k < 0) (hN : n.toNatClampNeg = N') (hM : k.toNatClampNeg = K') (hb1 : N' * 4 ≤ 536870912) (hb2 : K' * 4 ≤ 536870912) (hcells : cells + (1 + N') ≤ R.cells) (hslots : slots + (N' + N' * K') ≤ R.slots) (hdg : decode cc pc = .ok (.multianewarray index 2, 4))
    (kk : ∀ (q : Nat) (r : Nat → Nat) (H1 : Heap), va_P D vwCl (ws ++ [(q, .inl (cz 5, N', .inr (.inr (.inr (.inr (fun i => if i < N' then some (r i) else none))))))] ++ (List.range N').map (fun i => (r i, .inl (cz 0, K', .inl (fun _ => 0))))) H1 → va_D A (ws ++ [(q, .inl (cz 5, N', .inr (.inr (.inr (.inr (fun i => if i < N' then some (r i) else none))))))] ++ (List.range N').map (fun i => (r i, .inl (cz 0, K', .inl (fun _ => 0))))) → va_S A H0 H1 locs → W p l e R s m args below meth c H1 locs (cells + 1 + N') (slots + N' + N' * K') Q (F0 m (pc + 4) ls (.ref q :: rest))) : W p l e R s m args below meth c H locs cells slots Q (F0 m pc ls (.int k :: .int n :: rest)) := by
  obtain ⟨hx, hb, -, hown, hts, hK⟩ := X
  have hcy : s.vm.findClass (FieldType.array FieldType.int).toString = some (cz 0) := (hK.2 0 _ rfl).2
  refine va_mna (X := ws) (L := []) (f := fun _ => .inr (0, [])) (ty := .int) (cy := cz 0) (z := (K', .inl (fun _ => 0))) hx hb hown (hts _ hcl) hover (hts _ hw) hcy hK (by simpa [va_pl] using hP) (by simpa [va_pl] using hD) hS hA hn hk hN hM hb1 hb2 (by omega) rfl rfl hcells hslots (fun c => by rw [vp_cell_i, ← arrV_new]; rfl) hdg (fun q r cA H1 hr1 hr2 hK1 hP1 hD1 hS1 => ?_)
  have e : cA = cz 5 := cz_eq (k := 5) (t := (tyL cz).length) hK hK1 rfl (by simp)
  rw [List.nil_append, pl_all, e, List.map_map] at hP1 hD1
  exact kk q r H1 hP1 hD1 hS1
end RowsN2
theorem ga_l {l x : va_W} {p : Nat} {c : Nat × va_E} (h : l[p]? = some c) : (l ++ x)[p]? = some c := by
  rw [List.getElem?_append_left (List.getElem?_eq_some_iff.mp h).1]; exact h
theorem ga_r {l x : va_W} {n p : Nat} {c : Nat × va_E} (hn : l.length = n) (h : x[p]? = some c) : (l ++ x)[n + p]? = some c := by
  rw [List.getElem?_append_right (by omega), hn, Nat.add_sub_cancel_left]; exact h
theorem ga_s {α : Type} {l : List α} {n p : Nat} {c : α} (hn : l.length = n) (h : p < n) : (l.set p c)[p]? = some c := List.getElem?_set_self (by rw [hn]; exact h)
theorem ga_n {α : Type} {l : List α} {p q : Nat} {c d : α} (hne : p ≠ q) (h : l[q]? = some d) : (l.set p c)[q]? = some d := by
  rw [List.getElem?_set_ne hne]; exact h
