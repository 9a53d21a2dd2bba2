/-! the good words of the tables, one list for all methods -/
def GW : List Cond := lw_tbl.filter goodWord
theorem gm {w : Cond} (k : Nat) (h : lw_tbl[k]? = some w) (hg : goodWord w = true) : w ∈ GW := List.mem_filter.mpr ⟨List.mem_of_getElem? h, hg⟩
theorem GW_good : ∀ w ∈ GW, (w.onTables && w.keeps) = true ∨ ∃ ty, w = .arrayClass ty := fun _ h => good_of_word (List.mem_filter.mp h).2
theorem GW_tbl : ∀ w ∈ GW, w ∈ lw_tbl := fun _ h => (List.mem_filter.mp h).1
abbrev uw (y : MethodName) (cc : ByteArray) (n : Nat) (r : Option FieldType) : List Cond := Cond.code y cc n r :: GW
theorem uw_in {y : MethodName} {cc : ByteArray} {n : Nat} {r : Option FieldType} (hc : Cond.code y cc n r ∈ GW) : GoodIn GW (uw y cc n r) := fun w h => by
  rcases List.mem_cons.mp h with h | h
  · rw [h]; exact ⟨hc, GW_good _ hc⟩
  · exact ⟨h, GW_good _ h⟩
/-! an int between two numbers -/
def rg (lo hi : Int) (x : Int32) : Prop := lo ≤ x.toInt ∧ x.toInt ≤ hi
/-! the cells: .inl (kind, length, cells of an array of references), .inr (class, its fields: 0 int, 1 long, n + 2 the cell n) -/
abbrev tC : Type := (Nat × Nat × List Nat) ⊕ (Nat × List Nat)
def tb (j : Nat) : tC := tbl.getD j (.inl (0, 0, []))
def fV (h : Nat → Nat) (f : Nat → Int32) (g : Nat → Int64) (k d : Nat) : Value := match d with
  | 0 => .int (f k)
  | 1 => .long (g k)
  | d + 2 => .ref (h d)
def fL (h : Nat → Nat) (f : Nat → Int32) (g : Nat → Int64) : Nat → List Nat → List Value
  | _, [] => []
  | k, d :: ds => fV h f g k d :: fL h f g (k + 1) ds
def cE (h : Nat → Nat) (cz : Nat → ClassId) (t : tC) (f : Nat → Int32) (g : Nat → Int64) : va_E := match t with
  | .inl (0, n, _) => .inl (cz 0, n, .inl f)
  | .inl (1, n, _) => .inl (cz 1, n, .inl f)
  | .inl (2, n, _) => .inl (cz 2, n, .inl f)
  | .inl (3, n, _) => .inl (cz 3, n, .inr (.inl g))
  | .inl (k + 4, n, rs) => .inl (cz (k + 4), n, .inr (.inr (.inr (.inr (fun q => if q < rs.length then some (h (rs.getD q 0)) else none)))))
  | .inr (ci, ds) => .inr (ci, fL h f g 0 ds)
def wH (h : Nat → Nat) (cz : Nat → ClassId) (i : Nat → Nat → Int32) (g : Nat → Nat → Int64) : va_W := (List.range NC).map (fun j => (h j, cE h cz (tb j) (i j) (g j)))
def DJ (h : Nat → Nat) : Prop := ∀ j k : Nat, j < NC → k < NC → h j = h k → j = k
def hA (h : Nat → Nat) : Nat → Prop := fun q => ∃ j : Nat, j < NC ∧ h j = q
def TH (D : va_G) (h : Nat → Nat) (cz : Nat → ClassId) (i : Nat → Nat → Int32) (g : Nat → Nat → Int64) (H : Heap) : Prop := va_P D vwCl (wH h cz i g) H ∧ DJ h
def tyL (cz : Nat → ClassId) : List (ClassId × FieldType) := [(cz 0, .int), (cz 1, .byte), (cz 2, .boolean), (cz 3, .long), (cz 4, .object "UncutTale$Story"), (cz 5, .array .int)]
def up2 (i : Nat → Nat → Int32) (j k : Nat) (v : Int32) : Nat → Nat → Int32 := fun q => if q = j then upd (i j) k v else i q
def up3 (g : Nat → Nat → Int64) (j k : Nat) (v : Int64) : Nat → Nat → Int64 := fun q => if q = j then vp_updL (g j) k v else g q
theorem up2_at (i : Nat → Nat → Int32) (j k : Nat) (v : Int32) : up2 i j k v j k = v := by simp [up2, upd]
theorem up2_j {i : Nat → Nat → Int32} {j k : Nat} {v : Int32} {q : Nat} (hq : q ≠ j) : up2 i j k v q = i q := by simp [up2, hq]
theorem up2_k {i : Nat → Nat → Int32} {j k : Nat} {v : Int32} {q r : Nat} (hr : r ≠ k) : up2 i j k v q r = i q r := by
  by_cases hq : q = j
  · subst hq; simp [up2, upd, hr]
  · simp [up2, hq]
theorem up2_s (i : Nat → Nat → Int32) (j k : Nat) (v : Int32) : up2 i j k v j = upd (i j) k v := by simp [up2]
theorem up3_j {g : Nat → Nat → Int64} {j k : Nat} {v : Int64} {q : Nat} (hq : q ≠ j) : up3 g j k v q = g q := by simp [up3, hq]
theorem up3_s (g : Nat → Nat → Int64) (j k : Nat) (v : Int64) : up3 g j k v j = vp_updL (g j) k v := by simp [up3]
theorem wH_get (h : Nat → Nat) (cz : Nat → ClassId) (i : Nat → Nat → Int32) (g : Nat → Nat → Int64) {j : Nat} (hj : j < NC) : (wH h cz i g)[j]? = some (h j, cE h cz (tb j) (i j) (g j)) := by
  simp [wH, hj]
theorem wH_len (h : Nat → Nat) (cz : Nat → ClassId) (i : Nat → Nat → Int32) (g : Nat → Nat → Int64) : (wH h cz i g).length = NC := by simp [wH]
theorem wH_some {h : Nat → Nat} {cz : Nat → ClassId} {i : Nat → Nat → Int32} {g : Nat → Nat → Int64} {j : Nat} {q : Nat × va_E} (hq : (wH h cz i g)[j]? = some q) : j < NC ∧ q = (h j, cE h cz (tb j) (i j) (g j)) := by
  have hl := (List.getElem?_eq_some_iff.mp hq).1
  rw [wH_len] at hl
  exact ⟨hl, (Option.some.inj ((wH_get h cz i g hl).symm.trans hq)).symm⟩
theorem wH_D {h : Nat → Nat} (hd : DJ h) (cz : Nat → ClassId) (i : Nat → Nat → Int32) (g : Nat → Nat → Int64) : va_D (hA h) (wH h cz i g) := by
  refine ⟨fun a b p q hp hq e => ?_, fun k q hq => ?_⟩
  · obtain ⟨l1, e1⟩ := wH_some hp
    obtain ⟨l2, e2⟩ := wH_some hq
    rw [e1, e2] at e
    exact hd a b l1 l2 e
  · obtain ⟨l1, e1⟩ := wH_some hq
    rw [e1]
    exact ⟨k, l1, rfl⟩
theorem wH_set {h : Nat → Nat} {cz : Nat → ClassId} {i i' : Nat → Nat → Int32} {g g' : Nat → Nat → Int64} {j : Nat} (hi : ∀ q, q ≠ j → i' q = i q) (hg : ∀ q, q ≠ j → g' q = g q) : (wH h cz i g).set j (h j, cE h cz (tb j) (i' j) (g' j)) = wH h cz i' g' := by
  apply List.ext_getElem?
  intro q
  by_cases hq : q = j
  · subst hq
    by_cases hl : q < NC
    · rw [List.getElem?_set_self (by rw [wH_len]; exact hl), wH_get _ _ _ _ hl]
    · rw [List.getElem?_eq_none (by rw [List.length_set, wH_len]; omega), List.getElem?_eq_none (by rw [wH_len]; omega)]
  · rw [List.getElem?_set_ne (Ne.symm hq)]
    by_cases hl : q < NC
    · rw [wH_get _ _ _ _ hl, wH_get _ _ _ _ hl, hi q hq, hg q hq]
    · rw [List.getElem?_eq_none (by rw [wH_len]; omega), List.getElem?_eq_none (by rw [wH_len]; omega)]
theorem fL_get (h : Nat → Nat) (f : Nat → Int32) (g : Nat → Int64) : ∀ (ds : List Nat) (b k : Nat), (fL h f g b ds)[k]? = (ds[k]?).map (fV h f g (b + k))
  | [], b, k => by simp [fL]
  | d :: ds, b, 0 => by simp [fL]
  | d :: ds, b, k + 1 => by
    have e := fL_get h f g ds (b + 1) k
    simp only [fL, List.getElem?_cons_succ, e]
    rw [show b + 1 + k = b + (k + 1) by omega]
theorem fL_at {h : Nat → Nat} {f : Nat → Int32} {g : Nat → Int64} {ds : List Nat} {k d : Nat} (hd : ds[k]? = some d) : (fL h f g 0 ds)[k]? = some (fV h f g k d) := by
  rw [fL_get, hd]; simp
theorem fL_len (h : Nat → Nat) (f : Nat → Int32) (g : Nat → Int64) : ∀ (ds : List Nat) (b : Nat), (fL h f g b ds).length = ds.length
  | [], b => rfl
  | d :: ds, b => by simp [fL, fL_len h f g ds (b + 1)]
theorem fL_set {h : Nat → Nat} {f f' : Nat → Int32} {g g' : Nat → Int64} {ds : List Nat} {k d : Nat} (hd : ds[k]? = some d) (hf : ∀ q, q ≠ k → f' q = f q) (hg : ∀ q, q ≠ k → g' q = g q) : (fL h f g 0 ds).set k (fV h f' g' k d) = fL h f' g' 0 ds := by
  apply List.ext_getElem?
  intro q
  have hl : k < ds.length := (List.getElem?_eq_some_iff.mp hd).1
  by_cases hq : q = k
  · subst hq
    rw [List.getElem?_set_self (by rw [fL_len]; exact hl), fL_at hd]
  · rw [List.getElem?_set_ne (Ne.symm hq), fL_get, fL_get]
    have e : fV h f g (0 + q) = fV h f' g' (0 + q) := by
      funext d
      rw [Nat.zero_add]
      match d with
      | 0 => simp [fV, hf q hq]
      | 1 => simp [fV, hg q hq]
      | d + 2 => simp [fV]
    rw [e]
/-! what a method stands in: the machine, its code, its class, the good words, the classes and array classes -/
def Cxt (p : Program) (s : State) (m : MethodId) (c : Code) (args : Array Value) (cc : ByteArray) (nL : Nat) (own : String) (D : va_G) (cz : Nat → ClassId) : Prop :=
  p.tables.exec = Jvm.exec ∧ c.code = cc ∧ c.maxLocals = nL ∧ s.vm.findClass own = some m.cls ∧ (∀ w ∈ GW, w.before args s = true) ∧ va_K D vwCl (tyL cz) s
/-- a field's link: own class, index, the class's number, the field's -/
def FK (own : String) (index ci k : Nat) : Prop := ∃ (C : String) (T : u_T) (N : Nat), vwCl[ci]? = some (C, T, N) ∧ k < N ∧ (∀ w ∈ u_ws C T N, w ∈ GW) ∧ Cond.fieldLink own index (T k).1 (T k).2.1 (T k).2.2.1 ∈ GW
def PK (own : String) (index ci k : Nat) (ty : FieldType) : Prop := ∃ (C : String) (T : u_T) (N : Nat) (t0 : Nat → FieldType), vwCl[ci]? = some (C, T, N) ∧ k < N ∧ (∀ w ∈ u_ws C T N, w ∈ GW) ∧ Cond.fieldLink own index (T k).1 (T k).2.1 (T k).2.2.1 ∈ GW ∧ (∀ k, k < N → parseFieldDescriptor (T k).2.2.1 = some (t0 k)) ∧ (∀ a, a < N → ∀ b, b < N → a ≠ b → (T a).2.1 ≠ (T b).2.1) ∧ (T k).2.2.2 = false ∧ parseFieldDescriptor (T k).2.2.1 = some ty
def QK (own : String) (index ci k : Nat) (ty : FieldType) : Prop := ∃ (C : String) (T : u_T) (N : Nat) (t0 : Nat → FieldType), vwCl[ci]? = some (C, T, N) ∧ k < N ∧ (∀ w ∈ u_ws C T N, w ∈ GW) ∧ Cond.fieldLink own index (T k).1 (T k).2.1 (T k).2.2.1 ∈ GW ∧ (∀ k, k < N → parseFieldDescriptor (T k).2.2.1 = some (t0 k)) ∧ (∀ a, a < N → ∀ b, b < N → a ≠ b → (T a).2.1 ≠ (T b).2.1) ∧ (T k).2.2.2 = true ∧ (T k).1 = own ∧ parseFieldDescriptor (T k).2.2.1 = some ty
/-- a method's words -/
def MK (y : MethodName) (cc : ByteArray) (n : Nat) (r : Option FieldType) : Prop := Cond.code y cc n r ∈ GW ∧ Cond.instanceMethod y ∈ GW ∧ Cond.selects y.cls y y ∈ GW ∧ Cond.initialized y.cls ∈ GW
def SK (y : MethodName) (cc : ByteArray) (n : Nat) (r : Option FieldType) : Prop := Cond.code y cc n r ∈ GW ∧ Cond.static y ∈ GW ∧ Cond.initialized y.cls ∈ GW
abbrev St2 : Type := (Nat → Nat → Int32) × (Nat → Nat → Int64)
def wB (D : va_G) (h : Nat → Nat) (cz : Nat → ClassId) (u : St2) (U : State) : Prop := TH D h cz u.1 u.2 U.heap ∧ va_K D vwCl (tyL cz) U
def wP (D : va_G) (h : Nat → Nat) (cz : Nat → ClassId) (i : Nat → Nat → Int32) (g : Nat → Nat → Int64) (av : List Value) : Array Value → State → Prop := va_Pc av (fun U => TH D h cz i g U.heap ∧ va_K D vwCl (tyL cz) U)
abbrev CtI (l : Launch) (y : MethodName) (cc : ByteArray) (n : Nat) (r : Option FieldType) (rm : Room) (D : va_G) (h : Nat → Nat) (cz : Nat → ClassId) (i : Nat → Nat → Int32) (g : Nat → Nat → Int64) (av : List Value) (post : Int32 → St2 → Prop) : Prop := Met l y (uw y cc n r) rm (wP D h cz i g av) (va_Qi post (wB D h cz) (hA h)) 0 0 (hA h)
abbrev CtL (l : Launch) (y : MethodName) (cc : ByteArray) (n : Nat) (r : Option FieldType) (rm : Room) (D : va_G) (h : Nat → Nat) (cz : Nat → ClassId) (i : Nat → Nat → Int32) (g : Nat → Nat → Int64) (av : List Value) (post : Int64 → St2 → Prop) : Prop := Met l y (uw y cc n r) rm (wP D h cz i g av) (va_Ql post (wB D h cz) (hA h)) 0 0 (hA h)
abbrev CtV (l : Launch) (y : MethodName) (cc : ByteArray) (n : Nat) (r : Option FieldType) (rm : Room) (D : va_G) (h : Nat → Nat) (cz : Nat → ClassId) (i : Nat → Nat → Int32) (g : Nat → Nat → Int64) (av : List Value) (post : St2 → Prop) : Prop := Met l y (uw y cc n r) rm (wP D h cz i g av) (va_Qv post (wB D h cz) (hA h)) 0 0 (hA h)
theorem wP_blind (D : va_G) (h : Nat → Nat) (cz : Nat → ClassId) (i : Nat → Nat → Int32) (g : Nat → Nat → Int64) (av : List Value) : FrameBlind (wP D h cz i g av) := by
  intro a U fr mk q
  obtain ⟨q0, q1, q2⟩ := q
  exact ⟨q0, q1, va_K.moved (u := U) (U := U.calling fr mk a) (Vm.Alike.refl U.vm) q2⟩
section RowsA
variable {p : Program} {l : Launch} {e : Env} {R : Room} {s : State} {m : MethodId} {args : Array Value} {below : List Frame} {meth : Method} {c : Code} {H H0 : Heap} {locs : List Loc} {cells slots : Nat} {Q : State → Prop} {cc : ByteArray} {nL : Nat} {own : String} {D : va_G} {cz : Nat → ClassId} {h : Nat → Nat} {i : Nat → Nat → Int32} {g : Nat → Nat → Int64} {pc : Nat} {ls : Array Slot} {rest : List Value}
theorem r_geti (X : Cxt p s m c args cc nL own D cz) (hT : TH D h cz i g H) (j k : Nat) {index ci : Nat} (F : FK own index ci k) {ds : List Nat} (ht : tb j = .inr (ci, ds)) (hd : ds[k]? = some 0) (hj : j < NC) (hdg : decode cc pc = .ok (.getfield index, 3))
    (kk : W p l e R s m args below meth c H locs cells slots Q (F0 m (pc + 3) ls (.int (i j k) :: rest))) : W p l e R s m args below meth c H locs cells slots Q (F0 m pc ls (.ref (h j) :: rest)) := by
  obtain ⟨hx, hb, -, hown, hts, hK⟩ := X
  obtain ⟨C, T, N, hc, hk, hw, hl⟩ := F
  exact va_get (D := D) (ci := ci) (v := .int (i j k)) (C := C) (T := T) (N := N) hx hb hts hw hown hK hT.1 j (by rw [wH_get _ _ _ _ hj, ht]; rfl) hc k hk (hts _ hl) (fun _ q => q) (fL_at hd) hdg kk
theorem r_getl (X : Cxt p s m c args cc nL own D cz) (hT : TH D h cz i g H) (j k : Nat) {index ci : Nat} (F : FK own index ci k) {ds : List Nat} (ht : tb j = .inr (ci, ds)) (hd : ds[k]? = some 1) (hj : j < NC) (hdg : decode cc pc = .ok (.getfield index, 3))
    (kk : W p l e R s m args below meth c H locs cells slots Q (F0 m (pc + 3) ls (.long (g j k) :: rest))) : W p l e R s m args below meth c H locs cells slots Q (F0 m pc ls (.ref (h j) :: rest)) := by
  obtain ⟨hx, hb, -, hown, hts, hK⟩ := X
  obtain ⟨C, T, N, hc, hk, hw, hl⟩ := F
  exact va_get (D := D) (ci := ci) (v := .long (g j k)) (C := C) (T := T) (N := N) hx hb hts hw hown hK hT.1 j (by rw [wH_get _ _ _ _ hj, ht]; rfl) hc k hk (hts _ hl) (fun _ q => q) (fL_at hd) hdg kk
theorem r_getr (X : Cxt p s m c args cc nL own D cz) (hT : TH D h cz i g H) (j k o : Nat) {index ci : Nat} (F : FK own index ci k) {ds : List Nat} (ht : tb j = .inr (ci, ds)) (hd : ds[k]? = some (o + 2)) (hj : j < NC) (hdg : decode cc pc = .ok (.getfield index, 3))
    (kk : W p l e R s m args below meth c H locs cells slots Q (F0 m (pc + 3) ls (.ref (h o) :: rest))) : W p l e R s m args below meth c H locs cells slots Q (F0 m pc ls (.ref (h j) :: rest)) := by
  obtain ⟨hx, hb, -, hown, hts, hK⟩ := X
  obtain ⟨C, T, N, hc, hk, hw, hl⟩ := F
  exact va_get (D := D) (ci := ci) (v := .ref (h o)) (C := C) (T := T) (N := N) hx hb hts hw hown hK hT.1 j (by rw [wH_get _ _ _ _ hj, ht]; rfl) hc k hk (hts _ hl) (fun _ q => q) (fL_at hd) hdg kk
theorem r_puti (X : Cxt p s m c args cc nL own D cz) (hT : TH D h cz i g H) (hS : va_S (hA h) H0 H locs) (j k : Nat) {index ci : Nat} {ty : FieldType} (F : PK own index ci k ty) {v : Int32} (hn : narrow ty (.int v) = .int v) (hfit : fits ty (.int v) = true) {ds : List Nat} (ht : tb j = .inr (ci, ds)) (hd : ds[k]? = some 0) (hj : j < NC) (hdg : decode cc pc = .ok (.putfield index, 3))
    (kk : ∀ (H1 : Heap) (locs1 : List Loc) (i1 : Nat → Nat → Int32), i1 = up2 i j k v → TH D h cz i1 g H1 → va_S (hA h) H0 H1 locs1 → W p l e R s m args below meth c H1 locs1 cells slots Q (F0 m (pc + 3) ls rest)) : W p l e R s m args below meth c H locs cells slots Q (F0 m pc ls (.int v :: .ref (h j) :: rest)) := by
  obtain ⟨hx, hb, -, hown, hts, hK⟩ := X
  obtain ⟨C, T, N, t0, hc, hk, hw, hl, hty, hnm, hfin, hpd⟩ := F
  have hlen : k < (fL h (i j) (g j) 0 ds).length := by rw [fL_len]; exact (List.getElem?_eq_some_iff.mp hd).1
  refine va_put (D := D) (ci := ci) (v := .int v) (C := C) (T := T) (N := N) hx hb hts hw t0 hty hnm hown hK hT.1 (wH_D hT.2 cz i g) hS j (by rw [wH_get _ _ _ _ hj, ht]; rfl) hc k hk (hts _ hl) (fun _ q => q) hfin hpd hn hfit hlen hdg (fun H1 locs1 hP _ hS1 => kk H1 locs1 _ rfl ⟨?_, hT.2⟩ hS1)
  have e : (wH h cz i g).set j (h j, .inr (ci, (fL h (i j) (g j) 0 ds).set k (.int v))) = wH h cz (up2 i j k v) g := by
    rw [← wH_set (i := i) (g := g) (j := j) (fun q hq => up2_j hq) (fun _ _ => rfl), ht]
    congr 2
    show (.inr _ : va_E) = .inr _
    congr 2
    rw [← fL_set (f := i j) (g := g j) hd (f' := up2 i j k v j) (g' := g j) (fun q hq => by rw [up2_k hq]) (fun _ _ => rfl)]
    simp [fV, up2_at]
  rw [e] at hP
  exact hP
theorem r_putl (X : Cxt p s m c args cc nL own D cz) (hT : TH D h cz i g H) (hS : va_S (hA h) H0 H locs) (j k : Nat) {index ci : Nat} (F : PK own index ci k .long) {v : Int64} {ds : List Nat} (ht : tb j = .inr (ci, ds)) (hd : ds[k]? = some 1) (hj : j < NC) (hdg : decode cc pc = .ok (.putfield index, 3))
    (kk : ∀ (H1 : Heap) (locs1 : List Loc) (g1 : Nat → Nat → Int64), g1 = up3 g j k v → TH D h cz i g1 H1 → va_S (hA h) H0 H1 locs1 → W p l e R s m args below meth c H1 locs1 cells slots Q (F0 m (pc + 3) ls rest)) : W p l e R s m args below meth c H locs cells slots Q (F0 m pc ls (.long v :: .ref (h j) :: rest)) := by
  obtain ⟨hx, hb, -, hown, hts, hK⟩ := X
  obtain ⟨C, T, N, t0, hc, hk, hw, hl, hty, hnm, hfin, hpd⟩ := F
  have hlen : k < (fL h (i j) (g j) 0 ds).length := by rw [fL_len]; exact (List.getElem?_eq_some_iff.mp hd).1
  refine va_put (D := D) (ci := ci) (v := .long v) (C := C) (T := T) (N := N) hx hb hts hw t0 hty hnm hown hK hT.1 (wH_D hT.2 cz i g) hS j (by rw [wH_get _ _ _ _ hj, ht]; rfl) hc k hk (hts _ hl) (fun _ q => q) hfin hpd rfl rfl hlen hdg (fun H1 locs1 hP _ hS1 => kk H1 locs1 _ rfl ⟨?_, hT.2⟩ hS1)
  have e : (wH h cz i g).set j (h j, .inr (ci, (fL h (i j) (g j) 0 ds).set k (.long v))) = wH h cz i (up3 g j k v) := by
    rw [← wH_set (i := i) (g := g) (j := j) (fun _ _ => rfl) (fun q hq => up3_j hq), ht]
    congr 2
    show (.inr _ : va_E) = .inr _
    congr 2
    rw [← fL_set (f := i j) (g := g j) hd (f' := i j) (g' := up3 g j k v j) (fun _ _ => rfl) (fun q hq => by rw [up3_s]; simp [vp_updL, hq])]
    simp [fV, up3_s, vp_updL]
  rw [e] at hP
  exact hP
theorem r_iald (X : Cxt p s m c args cc nL own D cz) (hT : TH D h cz i g H) (j : Nat) {n : Nat} {rs : List Nat} (ht : tb j = .inl (0, n, rs)) (hj : j < NC) {x : Int32} (hin : vp_in x n) (hdg : decode cc pc = .ok (.iaload, 1))
    (kk : W p l e R s m args below meth c H locs cells slots Q (F0 m (pc + 1) ls (.int (i j x.toNatClampNeg) :: rest))) : W p l e R s m args below meth c H locs cells slots Q (F0 m pc ls (.int x :: .ref (h j) :: rest)) :=
  va_iald X.1 X.2.1 X.2.2.2.2.2 hT.1 j 0 (cA := cz 0) (n := n) (f := i j) (by rw [wH_get _ _ _ _ hj, ht]; rfl) rfl hin hdg kk
theorem r_bald (X : Cxt p s m c args cc nL own D cz) (hT : TH D h cz i g H) (j : Nat) {n : Nat} {rs : List Nat} (ht : tb j = .inl (1, n, rs)) (hj : j < NC) {x : Int32} (hin : vp_in x n) (hdg : decode cc pc = .ok (.baload, 1))
    (kk : W p l e R s m args below meth c H locs cells slots Q (F0 m (pc + 1) ls (.int (i j x.toNatClampNeg) :: rest))) : W p l e R s m args below meth c H locs cells slots Q (F0 m pc ls (.int x :: .ref (h j) :: rest)) :=
  va_bald X.1 X.2.1 X.2.2.2.2.2 hT.1 j 1 (cA := cz 1) (n := n) (f := i j) (by rw [wH_get _ _ _ _ hj, ht]; rfl) rfl hin hdg kk
theorem r_zald (X : Cxt p s m c args cc nL own D cz) (hT : TH D h cz i g H) (j : Nat) {n : Nat} {rs : List Nat} (ht : tb j = .inl (2, n, rs)) (hj : j < NC) {x : Int32} (hin : vp_in x n) (hdg : decode cc pc = .ok (.baload, 1))
    (kk : W p l e R s m args below meth c H locs cells slots Q (F0 m (pc + 1) ls (.int (i j x.toNatClampNeg) :: rest))) : W p l e R s m args below meth c H locs cells slots Q (F0 m pc ls (.int x :: .ref (h j) :: rest)) :=
  va_zald X.1 X.2.1 X.2.2.2.2.2 hT.1 j 2 (cA := cz 2) (n := n) (f := i j) (by rw [wH_get _ _ _ _ hj, ht]; rfl) rfl hin hdg kk
theorem r_lald (X : Cxt p s m c args cc nL own D cz) (hT : TH D h cz i g H) (j : Nat) {n : Nat} {rs : List Nat} (ht : tb j = .inl (3, n, rs)) (hj : j < NC) {x : Int32} (hin : vp_in x n) (hdg : decode cc pc = .ok (.laload, 1))
    (kk : W p l e R s m args below meth c H locs cells slots Q (F0 m (pc + 1) ls (.long (g j x.toNatClampNeg) :: rest))) : W p l e R s m args below meth c H locs cells slots Q (F0 m pc ls (.int x :: .ref (h j) :: rest)) :=
  va_lald X.1 X.2.1 X.2.2.2.2.2 hT.1 j 3 (cA := cz 3) (n := n) (f := g j) (by rw [wH_get _ _ _ _ hj, ht]; rfl) rfl hin hdg kk
theorem wH_row {j : Nat} {v : Int32} {k n kd : Nat} {rs : List Nat} (ht : tb j = .inl (kd, n, rs)) (hkd : kd < 3) : (wH h cz i g).set j (h j, .inl (cz kd, n, .inl (upd (i j) k v))) = wH h cz (up2 i j k v) g := by
  rw [← wH_set (i := i) (g := g) (j := j) (fun q hq => up2_j hq) (fun _ _ => rfl), ht, up2_s]
  match kd, hkd with
  | 0, _ => rfl
  | 1, _ => rfl
  | 2, _ => rfl
theorem r_iast (X : Cxt p s m c args cc nL own D cz) (hT : TH D h cz i g H) (hS : va_S (hA h) H0 H locs) (j : Nat) {n : Nat} {rs : List Nat} (ht : tb j = .inl (0, n, rs)) (hj : j < NC) {x v : Int32} (hin : vp_in x n) (hdg : decode cc pc = .ok (.iastore, 1))
    (kk : ∀ (H1 : Heap) (locs1 : List Loc) (i1 : Nat → Nat → Int32), i1 = up2 i j x.toNatClampNeg v → TH D h cz i1 g H1 → va_S (hA h) H0 H1 locs1 → W p l e R s m args below meth c H1 locs1 cells slots Q (F0 m (pc + 1) ls rest)) : W p l e R s m args below meth c H locs cells slots Q (F0 m pc ls (.int v :: .int x :: .ref (h j) :: rest)) :=
  va_iast X.1 X.2.1 X.2.2.2.2.2 hT.1 (wH_D hT.2 cz i g) hS j 0 (cA := cz 0) (n := n) (f := i j) (by rw [wH_get _ _ _ _ hj, ht]; rfl) rfl hin hdg (fun H1 locs1 hP _ hS1 => kk H1 locs1 _ rfl ⟨by rw [wH_row ht (by decide)] at hP; exact hP, hT.2⟩ hS1)
theorem r_bast (X : Cxt p s m c args cc nL own D cz) (hT : TH D h cz i g H) (hS : va_S (hA h) H0 H locs) (j : Nat) {n : Nat} {rs : List Nat} (ht : tb j = .inl (1, n, rs)) (hj : j < NC) {x v : Int32} (hin : vp_in x n) (hdg : decode cc pc = .ok (.bastore, 1))
    (kk : ∀ (H1 : Heap) (locs1 : List Loc) (i1 : Nat → Nat → Int32), i1 = up2 i j x.toNatClampNeg (vp_nar .byte v) → TH D h cz i1 g H1 → va_S (hA h) H0 H1 locs1 → W p l e R s m args below meth c H1 locs1 cells slots Q (F0 m (pc + 1) ls rest)) : W p l e R s m args below meth c H locs cells slots Q (F0 m pc ls (.int v :: .int x :: .ref (h j) :: rest)) :=
  va_bast X.1 X.2.1 X.2.2.2.2.2 hT.1 (wH_D hT.2 cz i g) hS j 1 (cA := cz 1) (n := n) (f := i j) (by rw [wH_get _ _ _ _ hj, ht]; rfl) rfl hin hdg (fun H1 locs1 hP _ hS1 => kk H1 locs1 _ rfl ⟨by rw [wH_row ht (by decide)] at hP; exact hP, hT.2⟩ hS1)
theorem r_zast (X : Cxt p s m c args cc nL own D cz) (hT : TH D h cz i g H) (hS : va_S (hA h) H0 H locs) (j : Nat) {n : Nat} {rs : List Nat} (ht : tb j = .inl (2, n, rs)) (hj : j < NC) {x v : Int32} (hin : vp_in x n) (hdg : decode cc pc = .ok (.bastore, 1))
    (kk : ∀ (H1 : Heap) (locs1 : List Loc) (i1 : Nat → Nat → Int32), i1 = up2 i j x.toNatClampNeg (vp_nar .boolean v) → TH D h cz i1 g H1 → va_S (hA h) H0 H1 locs1 → W p l e R s m args below meth c H1 locs1 cells slots Q (F0 m (pc + 1) ls rest)) : W p l e R s m args below meth c H locs cells slots Q (F0 m pc ls (.int v :: .int x :: .ref (h j) :: rest)) :=
  va_zast X.1 X.2.1 X.2.2.2.2.2 hT.1 (wH_D hT.2 cz i g) hS j 2 (cA := cz 2) (n := n) (f := i j) (by rw [wH_get _ _ _ _ hj, ht]; rfl) rfl hin hdg (fun H1 locs1 hP _ hS1 => kk H1 locs1 _ rfl ⟨by rw [wH_row ht (by decide)] at hP; exact hP, hT.2⟩ hS1)
theorem r_last (X : Cxt p s m c args cc nL own D cz) (hT : TH D h cz i g H) (hS : va_S (hA h) H0 H locs) (j : Nat) {n : Nat} {rs : List Nat} (ht : tb j = .inl (3, n, rs)) (hj : j < NC) {x : Int32} {v : Int64} (hin : vp_in x n) (hdg : decode cc pc = .ok (.lastore, 1))
    (kk : ∀ (H1 : Heap) (locs1 : List Loc) (g1 : Nat → Nat → Int64), g1 = up3 g j x.toNatClampNeg v → TH D h cz i g1 H1 → va_S (hA h) H0 H1 locs1 → W p l e R s m args below meth c H1 locs1 cells slots Q (F0 m (pc + 1) ls rest)) : W p l e R s m args below meth c H locs cells slots Q (F0 m pc ls (.long v :: .int x :: .ref (h j) :: rest)) :=
  va_last X.1 X.2.1 X.2.2.2.2.2 hT.1 (wH_D hT.2 cz i g) hS j 3 (cA := cz 3) (n := n) (f := g j) (by rw [wH_get _ _ _ _ hj, ht]; rfl) rfl hin hdg (fun H1 locs1 hP _ hS1 => kk H1 locs1 _ rfl ⟨by
    have e : (wH h cz i g).set j (h j, .inl (cz 3, n, .inr (.inl (vp_updL (g j) x.toNatClampNeg v)))) = wH h cz i (up3 g j x.toNatClampNeg v) := by
      rw [← wH_set (i := i) (g := g) (j := j) (fun _ _ => rfl) (fun q hq => up3_j hq), ht, up3_s]
      rfl
    rw [e] at hP; exact hP, hT.2⟩ hS1)
theorem r_aald (X : Cxt p s m c args cc nL own D cz) (hT : TH D h cz i g H) (j o : Nat) {n : Nat} {rs : List Nat} (ht : tb j = .inl (4, n, rs)) (hj : j < NC) {x : Int32} (hin : vp_in x n) (hq : rs[x.toNatClampNeg]? = some o) (hdg : decode cc pc = .ok (.aaload, 1))
    (kk : W p l e R s m args below meth c H locs cells slots Q (F0 m (pc + 1) ls (.ref (h o) :: rest))) : W p l e R s m args below meth c H locs cells slots Q (F0 m pc ls (.int x :: .ref (h j) :: rest)) := by
  refine va_aldq X.1 X.2.1 X.2.2.2.2.2 hT.1 j 4 (cA := cz 4) (n := n) (f := fun q => if q < rs.length then some (h (rs.getD q 0)) else none) (by rw [wH_get _ _ _ _ hj, ht]; rfl) rfl hin hdg ?_
  have h1 : x.toNatClampNeg < rs.length := (List.getElem?_eq_some_iff.mp hq).1
  have e : (if x.toNatClampNeg < rs.length then some (h (rs.getD x.toNatClampNeg 0)) else none) = some (h o) := by
    rw [if_pos h1, List.getD_eq_getElem?_getD, hq]; rfl
  rw [e]
  exact kk
/-- a call of a method of the receiver's own class -/
theorem r_Vi {jb index maxL ci : Nat} {y : MethodName} {bytes : ByteArray} {ret : Option FieldType} {rm : Room} {As st : List Value} {post : Int32 → St2 → Prop} {ds : List Nat} {T : u_T} {N : Nat} (X : Cxt p s m c args cc nL own D cz) (hT : TH D h cz i g H) (hS : va_S (hA h) H0 H locs) (hM : CtI l y bytes maxL ret rm D h cz i g (.ref (h jb) :: As) post) (K : MK y bytes maxL ret) (ml : Cond.methodLink own index y ∈ GW)
    (ht : tb jb = .inr (ci, ds)) (hc : vwCl[ci]? = some (y.cls, T, N)) (hjb : jb < NC) (hd : y.cls ≠ "java/lang/invoke/MethodHandle" ∧ y.cls ≠ "java/lang/invoke/VarHandle" ∧ (parseMethodDescriptor y.desc).map (fun d => d.parameters.length) = some As.length) (hrc : rm.cells = 0 ∧ rm.slots = 0) (hR : rm.frames + 1 ≤ R.frames ∧ 8 + (maxL + 11) + rm.locals ≤ R.locals) (hz : ls.size = nL) (hst : st = As.reverse ++ .ref (h jb) :: rest) (hro : (rest.map fun v => v.category).sum ≤ 8) (hdg : decode cc pc = .ok (.invokevirtual index, 3)) (hcs : cells ≤ R.cells ∧ slots ≤ R.slots)
    (kk : ∀ (r : Int32) (i1 : Nat → Nat → Int32) (g1 : Nat → Nat → Int64) (H1 : Heap) (locs1 : List Loc), post r (i1, g1) → TH D h cz i1 g1 H1 → va_S (hA h) H0 H1 locs1 → W p l e R s m args below meth c H1 locs1 cells slots Q (F0 m (pc + 3) ls (.int r :: rest))) : W p l e R s m args below meth c H locs cells slots Q (F0 m pc ls st) := by
  obtain ⟨hx, hb, hml, hown, hts, hK⟩ := X
  have cw : CallW R s args own y.cls index y bytes maxL ret (uw y bytes maxL ret) rm 0 0 As.length := ⟨callB_of As.length hts (uw_in K.1) rfl hrc.1 hrc.2 (hts _ K.2.2.2) (hts _ ml) hd hR, hts _ K.2.1, hts _ K.2.2.1⟩
  refine va_calli (va_runV (As := As) (rest := rest) ⟨hx, hb, hml, hown, hts⟩ hM cw ⟨wP_blind D h cz i g _, va_recv hK hT.1 (q0 := jb) hc (by rw [wH_get _ _ _ _ hjb, ht]; rfl), fun U hU hW => ⟨rfl, by rw [hU]; exact hT, va_K.moved hW.alike hK⟩⟩ rfl rfl hz hst (lv_room hro) hdg ⟨hcs.1, hcs.2⟩) hS (fun _ _ z => z) (fun _ z => z) (fun r u t H1 locs1 ht hvm hw hB _ _ hS1 => ?_)
  obtain ⟨i1, g1⟩ := u
  exact kk r i1 g1 H1 locs1 hw (by have := hB.1; rw [ht] at this; exact this) hS1
theorem r_Vl {jb index maxL ci : Nat} {y : MethodName} {bytes : ByteArray} {ret : Option FieldType} {rm : Room} {As st : List Value} {post : Int64 → St2 → Prop} {ds : List Nat} {T : u_T} {N : Nat} (X : Cxt p s m c args cc nL own D cz) (hT : TH D h cz i g H) (hS : va_S (hA h) H0 H locs) (hM : CtL l y bytes maxL ret rm D h cz i g (.ref (h jb) :: As) post) (K : MK y bytes maxL ret) (ml : Cond.methodLink own index y ∈ GW)
    (ht : tb jb = .inr (ci, ds)) (hc : vwCl[ci]? = some (y.cls, T, N)) (hjb : jb < NC) (hd : y.cls ≠ "java/lang/invoke/MethodHandle" ∧ y.cls ≠ "java/lang/invoke/VarHandle" ∧ (parseMethodDescriptor y.desc).map (fun d => d.parameters.length) = some As.length) (hrc : rm.cells = 0 ∧ rm.slots = 0) (hR : rm.frames + 1 ≤ R.frames ∧ 8 + (maxL + 11) + rm.locals ≤ R.locals) (hz : ls.size = nL) (hst : st = As.reverse ++ .ref (h jb) :: rest) (hro : (rest.map fun v => v.category).sum ≤ 8) (hdg : decode cc pc = .ok (.invokevirtual index, 3)) (hcs : cells ≤ R.cells ∧ slots ≤ R.slots)
    (kk : ∀ (r : Int64) (i1 : Nat → Nat → Int32) (g1 : Nat → Nat → Int64) (H1 : Heap) (locs1 : List Loc), post r (i1, g1) → TH D h cz i1 g1 H1 → va_S (hA h) H0 H1 locs1 → W p l e R s m args below meth c H1 locs1 cells slots Q (F0 m (pc + 3) ls (.long r :: rest))) : W p l e R s m args below meth c H locs cells slots Q (F0 m pc ls st) := by
  obtain ⟨hx, hb, hml, hown, hts, hK⟩ := X
  have cw : CallW R s args own y.cls index y bytes maxL ret (uw y bytes maxL ret) rm 0 0 As.length := ⟨callB_of As.length hts (uw_in K.1) rfl hrc.1 hrc.2 (hts _ K.2.2.2) (hts _ ml) hd hR, hts _ K.2.1, hts _ K.2.2.1⟩
  refine va_calll (va_runV (As := As) (rest := rest) ⟨hx, hb, hml, hown, hts⟩ hM cw ⟨wP_blind D h cz i g _, va_recv hK hT.1 (q0 := jb) hc (by rw [wH_get _ _ _ _ hjb, ht]; rfl), fun U hU hW => ⟨rfl, by rw [hU]; exact hT, va_K.moved hW.alike hK⟩⟩ rfl rfl hz hst (lv_room hro) hdg ⟨hcs.1, hcs.2⟩) hS (fun _ _ z => z) (fun _ z => z) (fun r u t H1 locs1 ht hvm hw hB _ _ hS1 => ?_)
  obtain ⟨i1, g1⟩ := u
  exact kk r i1 g1 H1 locs1 hw (by have := hB.1; rw [ht] at this; exact this) hS1
theorem r_Vv {jb index maxL ci : Nat} {y : MethodName} {bytes : ByteArray} {ret : Option FieldType} {rm : Room} {As st : List Value} {post : St2 → Prop} {ds : List Nat} {T : u_T} {N : Nat} (X : Cxt p s m c args cc nL own D cz) (hT : TH D h cz i g H) (hS : va_S (hA h) H0 H locs) (hM : CtV l y bytes maxL ret rm D h cz i g (.ref (h jb) :: As) post) (K : MK y bytes maxL ret) (ml : Cond.methodLink own index y ∈ GW)
    (ht : tb jb = .inr (ci, ds)) (hc : vwCl[ci]? = some (y.cls, T, N)) (hjb : jb < NC) (hd : y.cls ≠ "java/lang/invoke/MethodHandle" ∧ y.cls ≠ "java/lang/invoke/VarHandle" ∧ (parseMethodDescriptor y.desc).map (fun d => d.parameters.length) = some As.length) (hrc : rm.cells = 0 ∧ rm.slots = 0) (hR : rm.frames + 1 ≤ R.frames ∧ 8 + (maxL + 11) + rm.locals ≤ R.locals) (hz : ls.size = nL) (hst : st = As.reverse ++ .ref (h jb) :: rest) (hro : (rest.map fun v => v.category).sum ≤ 8) (hdg : decode cc pc = .ok (.invokevirtual index, 3)) (hcs : cells ≤ R.cells ∧ slots ≤ R.slots)
    (kk : ∀ (i1 : Nat → Nat → Int32) (g1 : Nat → Nat → Int64) (H1 : Heap) (locs1 : List Loc), post (i1, g1) → TH D h cz i1 g1 H1 → va_S (hA h) H0 H1 locs1 → W p l e R s m args below meth c H1 locs1 cells slots Q (F0 m (pc + 3) ls rest)) : W p l e R s m args below meth c H locs cells slots Q (F0 m pc ls st) := by
  obtain ⟨hx, hb, hml, hown, hts, hK⟩ := X
  have cw : CallW R s args own y.cls index y bytes maxL ret (uw y bytes maxL ret) rm 0 0 As.length := ⟨callB_of As.length hts (uw_in K.1) rfl hrc.1 hrc.2 (hts _ K.2.2.2) (hts _ ml) hd hR, hts _ K.2.1, hts _ K.2.2.1⟩
  refine va_callv (va_runV (As := As) (rest := rest) ⟨hx, hb, hml, hown, hts⟩ hM cw ⟨wP_blind D h cz i g _, va_recv hK hT.1 (q0 := jb) hc (by rw [wH_get _ _ _ _ hjb, ht]; rfl), fun U hU hW => ⟨rfl, by rw [hU]; exact hT, va_K.moved hW.alike hK⟩⟩ rfl rfl hz hst (lv_room hro) hdg ⟨hcs.1, hcs.2⟩) hS (fun _ _ z => z) (fun _ z => z) (fun u t H1 locs1 ht hvm hw hB _ _ hS1 => ?_)
  obtain ⟨i1, g1⟩ := u
  exact kk i1 g1 H1 locs1 hw (by have := hB.1; rw [ht] at this; exact this) hS1
/-- a call of a static method of the same class -/
theorem r_Si {index maxL : Nat} {y : MethodName} {bytes : ByteArray} {ret : Option FieldType} {rm : Room} {As st : List Value} {post : Int32 → St2 → Prop} (X : Cxt p s m c args cc nL own D cz) (hT : TH D h cz i g H) (hS : va_S (hA h) H0 H locs) (hM : CtI l y bytes maxL ret rm D h cz i g As post) (K : SK y bytes maxL ret) (ml : Cond.methodLink own index y ∈ GW)
    (hd : y.cls ≠ "java/lang/invoke/MethodHandle" ∧ y.cls ≠ "java/lang/invoke/VarHandle" ∧ (parseMethodDescriptor y.desc).map (fun d => d.parameters.length) = some As.length) (hrc : rm.cells = 0 ∧ rm.slots = 0) (hR : rm.frames + 1 ≤ R.frames ∧ 8 + (maxL + 11) + rm.locals ≤ R.locals) (hz : ls.size = nL) (hst : st = As.reverse ++ rest) (hro : (rest.map fun v => v.category).sum ≤ 8) (hdg : decode cc pc = .ok (.invokestatic index, 3)) (hcs : cells ≤ R.cells ∧ slots ≤ R.slots)
    (kk : ∀ (r : Int32) (i1 : Nat → Nat → Int32) (g1 : Nat → Nat → Int64) (H1 : Heap) (locs1 : List Loc), post r (i1, g1) → TH D h cz i1 g1 H1 → va_S (hA h) H0 H1 locs1 → W p l e R s m args below meth c H1 locs1 cells slots Q (F0 m (pc + 3) ls (.int r :: rest))) : W p l e R s m args below meth c H locs cells slots Q (F0 m pc ls st) := by
  obtain ⟨hx, hb, hml, hown, hts, hK⟩ := X
  refine va_calli (va_runS (As := As) (rest := rest) ⟨hx, hb, hml, hown, hts⟩ hM ⟨callB_of As.length hts (uw_in K.1) rfl hrc.1 hrc.2 (hts _ K.2.2) (hts _ ml) hd hR, hts _ K.2.1⟩ ⟨wP_blind D h cz i g _, fun U hU hW => ⟨rfl, by rw [hU]; exact hT, va_K.moved hW.alike hK⟩⟩ rfl rfl hz hst (lv_room hro) hdg ⟨hcs.1, hcs.2⟩) hS (fun _ _ z => z) (fun _ z => z) (fun r u t H1 locs1 ht hvm hw hB _ _ hS1 => ?_)
  obtain ⟨i1, g1⟩ := u
  exact kk r i1 g1 H1 locs1 hw (by have := hB.1; rw [ht] at this; exact this) hS1
theorem r_Sl {index maxL : Nat} {y : MethodName} {bytes : ByteArray} {ret : Option FieldType} {rm : Room} {As st : List Value} {post : Int64 → St2 → Prop} (X : Cxt p s m c args cc nL own D cz) (hT : TH D h cz i g H) (hS : va_S (hA h) H0 H locs) (hM : CtL l y bytes maxL ret rm D h cz i g As post) (K : SK y bytes maxL ret) (ml : Cond.methodLink own index y ∈ GW)
    (hd : y.cls ≠ "java/lang/invoke/MethodHandle" ∧ y.cls ≠ "java/lang/invoke/VarHandle" ∧ (parseMethodDescriptor y.desc).map (fun d => d.parameters.length) = some As.length) (hrc : rm.cells = 0 ∧ rm.slots = 0) (hR : rm.frames + 1 ≤ R.frames ∧ 8 + (maxL + 11) + rm.locals ≤ R.locals) (hz : ls.size = nL) (hst : st = As.reverse ++ rest) (hro : (rest.map fun v => v.category).sum ≤ 8) (hdg : decode cc pc = .ok (.invokestatic index, 3)) (hcs : cells ≤ R.cells ∧ slots ≤ R.slots)
    (kk : ∀ (r : Int64) (i1 : Nat → Nat → Int32) (g1 : Nat → Nat → Int64) (H1 : Heap) (locs1 : List Loc), post r (i1, g1) → TH D h cz i1 g1 H1 → va_S (hA h) H0 H1 locs1 → W p l e R s m args below meth c H1 locs1 cells slots Q (F0 m (pc + 3) ls (.long r :: rest))) : W p l e R s m args below meth c H locs cells slots Q (F0 m pc ls st) := by
  obtain ⟨hx, hb, hml, hown, hts, hK⟩ := X
  refine va_calll (va_runS (As := As) (rest := rest) ⟨hx, hb, hml, hown, hts⟩ hM ⟨callB_of As.length hts (uw_in K.1) rfl hrc.1 hrc.2 (hts _ K.2.2) (hts _ ml) hd hR, hts _ K.2.1⟩ ⟨wP_blind D h cz i g _, fun U hU hW => ⟨rfl, by rw [hU]; exact hT, va_K.moved hW.alike hK⟩⟩ rfl rfl hz hst (lv_room hro) hdg ⟨hcs.1, hcs.2⟩) hS (fun _ _ z => z) (fun _ z => z) (fun r u t H1 locs1 ht hvm hw hB _ _ hS1 => ?_)
  obtain ⟨i1, g1⟩ := u
  exact kk r i1 g1 H1 locs1 hw (by have := hB.1; rw [ht] at this; exact this) hS1
theorem r_Sv {index maxL : Nat} {y : MethodName} {bytes : ByteArray} {ret : Option FieldType} {rm : Room} {As st : List Value} {post : St2 → Prop} (X : Cxt p s m c args cc nL own D cz) (hT : TH D h cz i g H) (hS : va_S (hA h) H0 H locs) (hM : CtV l y bytes maxL ret rm D h cz i g As post) (K : SK y bytes maxL ret) (ml : Cond.methodLink own index y ∈ GW)
    (hd : y.cls ≠ "java/lang/invoke/MethodHandle" ∧ y.cls ≠ "java/lang/invoke/VarHandle" ∧ (parseMethodDescriptor y.desc).map (fun d => d.parameters.length) = some As.length) (hrc : rm.cells = 0 ∧ rm.slots = 0) (hR : rm.frames + 1 ≤ R.frames ∧ 8 + (maxL + 11) + rm.locals ≤ R.locals) (hz : ls.size = nL) (hst : st = As.reverse ++ rest) (hro : (rest.map fun v => v.category).sum ≤ 8) (hdg : decode cc pc = .ok (.invokestatic index, 3)) (hcs : cells ≤ R.cells ∧ slots ≤ R.slots)
    (kk : ∀ (i1 : Nat → Nat → Int32) (g1 : Nat → Nat → Int64) (H1 : Heap) (locs1 : List Loc), post (i1, g1) → TH D h cz i1 g1 H1 → va_S (hA h) H0 H1 locs1 → W p l e R s m args below meth c H1 locs1 cells slots Q (F0 m (pc + 3) ls rest)) : W p l e R s m args below meth c H locs cells slots Q (F0 m pc ls st) := by
  obtain ⟨hx, hb, hml, hown, hts, hK⟩ := X
  refine va_callv (va_runS (As := As) (rest := rest) ⟨hx, hb, hml, hown, hts⟩ hM ⟨callB_of As.length hts (uw_in K.1) rfl hrc.1 hrc.2 (hts _ K.2.2) (hts _ ml) hd hR, hts _ K.2.1⟩ ⟨wP_blind D h cz i g _, fun U hU hW => ⟨rfl, by rw [hU]; exact hT, va_K.moved hW.alike hK⟩⟩ rfl rfl hz hst (lv_room hro) hdg ⟨hcs.1, hcs.2⟩) hS (fun _ _ z => z) (fun _ z => z) (fun u t H1 locs1 ht hvm hw hB _ _ hS1 => ?_)
  obtain ⟨i1, g1⟩ := u
  exact kk i1 g1 H1 locs1 hw (by have := hB.1; rw [ht] at this; exact this) hS1
/-- a method's ends -/
theorem r_iret {post : Int32 → St2 → Prop} {v : Int32} (X : Cxt p s m c args cc nL own D cz) (hr : meth.sig.returnType = some .int) (hlk : meth.locks = false) (hT : TH D h cz i g H) (hS : va_S (hA h) s.heap H locs) (hdg : decode cc pc = .ok (.ireturn, 1)) (hp : post v (i, g)) : W p l e R s m args below meth c H locs cells slots (MQ below (va_Qi post (wB D h cz) (hA h)) args s cells slots (hA h)) (F0 m pc ls [.int v]) :=
  W.iret (v := v) X.1 X.2.1 hr (fun t ht hW => ⟨⟨v, (i, g), rfl, hp, by rw [ht]; exact hT, va_K.moved hW.alike X.2.2.2.2.2⟩, hS.F ht⟩) hS.2.2 hdg hlk
theorem r_zret {post : Int32 → St2 → Prop} {v : Int32} (X : Cxt p s m c args cc nL own D cz) (hr : meth.sig.returnType = some .boolean) (hlk : meth.locks = false) (hT : TH D h cz i g H) (hS : va_S (hA h) s.heap H locs) (hdg : decode cc pc = .ok (.ireturn, 1)) (hn : narrow .boolean (.int v) = .int v) (hp : post v (i, g)) : W p l e R s m args below meth c H locs cells slots (MQ below (va_Qi post (wB D h cz) (hA h)) args s cells slots (hA h)) (F0 m pc ls [.int v]) :=
  W.zret (v := v) X.1 X.2.1 hr hn (fun t ht hW => ⟨⟨v, (i, g), rfl, hp, by rw [ht]; exact hT, va_K.moved hW.alike X.2.2.2.2.2⟩, hS.F ht⟩) hS.2.2 hdg hlk
theorem r_lret {post : Int64 → St2 → Prop} {v : Int64} (X : Cxt p s m c args cc nL own D cz) (hr : meth.sig.returnType = some .long) (hlk : meth.locks = false) (hT : TH D h cz i g H) (hS : va_S (hA h) s.heap H locs) (hdg : decode cc pc = .ok (.lreturn, 1)) (hp : post v (i, g)) : W p l e R s m args below meth c H locs cells slots (MQ below (va_Ql post (wB D h cz) (hA h)) args s cells slots (hA h)) (F0 m pc ls [.long v]) :=
  W.lret (v := v) X.1 X.2.1 hr (fun t ht hW => ⟨⟨v, (i, g), rfl, hp, by rw [ht]; exact hT, va_K.moved hW.alike X.2.2.2.2.2⟩, hS.F ht⟩) hS.2.2 hdg hlk
theorem r_vret {post : St2 → Prop} (X : Cxt p s m c args cc nL own D cz) (hr : meth.sig.returnType = none) (hlk : meth.locks = false) (hT : TH D h cz i g H) (hS : va_S (hA h) s.heap H locs) (hdg : decode cc pc = .ok (.return_, 1)) (hp : post (i, g)) : W p l e R s m args below meth c H locs cells slots (MQ below (va_Qv post (wB D h cz) (hA h)) args s cells slots (hA h)) (F0 m pc ls []) :=
  W.vret X.1 X.2.1 hr (fun t ht hW => ⟨⟨(i, g), rfl, hp, by rw [ht]; exact hT, va_K.moved hW.alike X.2.2.2.2.2⟩, hS.F ht⟩) hS.2.2 hdg hlk
end RowsA
/-- a contract out of a walk; the end as a continuation -/
abbrev RetI (p : Program) (l : Launch) (e : Env) (R : Room) (s : State) (m : MethodId) (args : Array Value) (below : List Frame) (meth : Method) (c : Code) (cc : ByteArray) (D : va_G) (h : Nat → Nat) (cz : Nat → ClassId) (post : Int32 → St2 → Prop) (Q : State → Prop) : Prop :=
  ∀ (v : Int32) (i : Nat → Nat → Int32) (g : Nat → Nat → Int64) (H : Heap) (locs : List Loc) (pc : Nat) (ls : Array Slot), decode cc pc = .ok (.ireturn, 1) → TH D h cz i g H → va_S (hA h) s.heap H locs → post v (i, g) → W p l e R s m args below meth c H locs 0 0 Q (F0 m pc ls [.int v])
abbrev RetL (p : Program) (l : Launch) (e : Env) (R : Room) (s : State) (m : MethodId) (args : Array Value) (below : List Frame) (meth : Method) (c : Code) (cc : ByteArray) (D : va_G) (h : Nat → Nat) (cz : Nat → ClassId) (post : Int64 → St2 → Prop) (Q : State → Prop) : Prop :=
  ∀ (v : Int64) (i : Nat → Nat → Int32) (g : Nat → Nat → Int64) (H : Heap) (locs : List Loc) (pc : Nat) (ls : Array Slot), decode cc pc = .ok (.lreturn, 1) → TH D h cz i g H → va_S (hA h) s.heap H locs → post v (i, g) → W p l e R s m args below meth c H locs 0 0 Q (F0 m pc ls [.long v])
abbrev RetV (p : Program) (l : Launch) (e : Env) (R : Room) (s : State) (m : MethodId) (args : Array Value) (below : List Frame) (meth : Method) (c : Code) (cc : ByteArray) (D : va_G) (h : Nat → Nat) (cz : Nat → ClassId) (post : St2 → Prop) (Q : State → Prop) : Prop :=
  ∀ (i : Nat → Nat → Int32) (g : Nat → Nat → Int64) (H : Heap) (locs : List Loc) (pc : Nat) (ls : Array Slot), decode cc pc = .ok (.return_, 1) → TH D h cz i g H → va_S (hA h) s.heap H locs → post (i, g) → W p l e R s m args below meth c H locs 0 0 Q (F0 m pc ls [])
section Entry
variable {l : Launch} {y : MethodName} {cc : ByteArray} {n : Nat} {rm : Room} {D : va_G} {h : Nat → Nat} {cz : Nat → ClassId} {i : Nat → Nat → Int32} {g : Nat → Nat → Int64} {av : List Value}
theorem k_entry {r : Option FieldType} {Qc : Array Value → State → Outcome → State → Prop} (hy : plainName y.cls = true) (hav : (lg_sl av).length ≤ n)
    (body : ∀ (p : Program) (e : Env) (s : State) (m : MethodId) (args : Array Value) (below : List Frame) (meth : Method) (c : Code) (ls : Array Slot), Cxt p s m c args cc n y.cls D cz → meth.sig.returnType = r → meth.locks = false → TH D h cz i g s.heap → lv_has ls n (lv_args 0 av) → va_S (hA h) s.heap s.heap [] → W p l e rm s m args below meth c s.heap [] 0 0 (MQ below Qc args s 0 0 (hA h)) (F0 m 0 ls [])) : Met l y (uw y cc n r) rm (wP D h cz i g av) Qc 0 0 (hA h) := by
  refine Met.ofW (cc := cc) (maxL := n) (ret := r) hy rfl ?_
  intro p e s m args below meth c s₁ B hml hv
  obtain ⟨rfl, hT, hK⟩ := hv
  have hts := atoms_spec (ws := uw y cc n r) B.pre
  have hl := lv_entry av (n := n) hav
  rw [lg_entry_eq]
  exact body p e s m _ below meth c _ ⟨B.exec, B.bytes, hml, findClass_of_methodNamed B.named, fun w hw => hts w (List.mem_cons_of_mem _ hw), hK⟩ B.returns B.notSynchronized hT hl va_S.rf
theorem k_I {post : Int32 → St2 → Prop} (hy : plainName y.cls = true) (hav : (lg_sl av).length ≤ n)
    (body : ∀ (p : Program) (e : Env) (s : State) (m : MethodId) (args : Array Value) (below : List Frame) (meth : Method) (c : Code) (ls : Array Slot) (Q : State → Prop), Cxt p s m c args cc n y.cls D cz → RetI p l e rm s m args below meth c cc D h cz post Q → TH D h cz i g s.heap → lv_has ls n (lv_args 0 av) → va_S (hA h) s.heap s.heap [] → W p l e rm s m args below meth c s.heap [] 0 0 Q (F0 m 0 ls [])) : CtI l y cc n (some .int) rm D h cz i g av post :=
  k_entry hy hav (fun p e s m args below meth c ls X hr hlk hT hl hS => body p e s m args below meth c ls _ X (fun v i g H locs pc ls hd hT hS hp => r_iret X hr hlk hT hS hd hp) hT hl hS)
theorem nb_z {v : Int32} (h : v = 0 ∨ v = 1) : narrow .boolean (.int v) = .int v := by rcases h with h | h <;> subst h <;> rfl
theorem k_Z {post : Int32 → St2 → Prop} (hz : ∀ v u, post v u → v = 0 ∨ v = 1) (hy : plainName y.cls = true) (hav : (lg_sl av).length ≤ n)
    (body : ∀ (p : Program) (e : Env) (s : State) (m : MethodId) (args : Array Value) (below : List Frame) (meth : Method) (c : Code) (ls : Array Slot) (Q : State → Prop), Cxt p s m c args cc n y.cls D cz → RetI p l e rm s m args below meth c cc D h cz post Q → TH D h cz i g s.heap → lv_has ls n (lv_args 0 av) → va_S (hA h) s.heap s.heap [] → W p l e rm s m args below meth c s.heap [] 0 0 Q (F0 m 0 ls [])) : CtI l y cc n (some .boolean) rm D h cz i g av post :=
  k_entry hy hav (fun p e s m args below meth c ls X hr hlk hT hl hS => body p e s m args below meth c ls _ X (fun v i g H locs pc ls hd hT hS hp => r_zret X hr hlk hT hS hd (nb_z (hz _ _ hp)) hp) hT hl hS)
theorem k_L {post : Int64 → St2 → Prop} (hy : plainName y.cls = true) (hav : (lg_sl av).length ≤ n)
    (body : ∀ (p : Program) (e : Env) (s : State) (m : MethodId) (args : Array Value) (below : List Frame) (meth : Method) (c : Code) (ls : Array Slot) (Q : State → Prop), Cxt p s m c args cc n y.cls D cz → RetL p l e rm s m args below meth c cc D h cz post Q → TH D h cz i g s.heap → lv_has ls n (lv_args 0 av) → va_S (hA h) s.heap s.heap [] → W p l e rm s m args below meth c s.heap [] 0 0 Q (F0 m 0 ls [])) : CtL l y cc n (some .long) rm D h cz i g av post :=
  k_entry hy hav (fun p e s m args below meth c ls X hr hlk hT hl hS => body p e s m args below meth c ls _ X (fun v i g H locs pc ls hd hT hS hp => r_lret X hr hlk hT hS hd hp) hT hl hS)
theorem k_V {post : St2 → Prop} (hy : plainName y.cls = true) (hav : (lg_sl av).length ≤ n)
    (body : ∀ (p : Program) (e : Env) (s : State) (m : MethodId) (args : Array Value) (below : List Frame) (meth : Method) (c : Code) (ls : Array Slot) (Q : State → Prop), Cxt p s m c args cc n y.cls D cz → RetV p l e rm s m args below meth c cc D h cz post Q → TH D h cz i g s.heap → lv_has ls n (lv_args 0 av) → va_S (hA h) s.heap s.heap [] → W p l e rm s m args below meth c s.heap [] 0 0 Q (F0 m 0 ls [])) : CtV l y cc n none rm D h cz i g av post :=
  k_entry hy hav (fun p e s m args below meth c ls X hr hlk hT hl hS => body p e s m args below meth c ls _ X (fun i g H locs pc ls hd hT hS hp => r_vret X hr hlk hT hS hd hp) hT hl hS)
end Entry
