def va_AOA (ty : FieldType) (U : State) : Prop := (Cond.arrayOver (.array ty)).before #[] U = true
theorem va_AOA.use {ty : FieldType} {A : Array Value} {U : State} (h : va_AOA ty U) : (Cond.arrayOver (.array ty)).before A U = true := h
/-! ===== BEGIN new T[n][m]: the outer array a place, the inner ones among the pooled ===== -/
/-- f, but v at every address of l -/
def vr_up {α : Type} (f : Nat → α) (l : List Nat) (v : α) : Nat → α := fun a => if a ∈ l then v else f a
theorem vr_up_in {α : Type} {f : Nat → α} {l : List Nat} {v : α} {a : Nat} (h : a ∈ l) : vr_up f l v a = v := if_pos h
theorem vr_up_ne {α : Type} {f : Nat → α} {l : List Nat} {v : α} {a : Nat} (h : a ∉ l) : vr_up f l v a = f a := if_neg h
theorem vr_rows {L l : List Nat} {f : Nat → va_E} {e : va_E} (h : ∀ a, a ∈ l → a ∉ L) : va_pl L f ++ l.map (fun a => (a, e)) = va_pl (L ++ l) (vr_up f l e) := by
  unfold va_pl
  rw [List.map_append]
  congr 1
  · apply List.map_congr_left
    intro a ha
    rw [vr_up_ne (fun q => h a q ha)]
  · apply List.map_congr_left
    intro a ha
    rw [vr_up_in ha]
theorem vr_lay {X rows : va_W} {x : Nat × va_E} {pl : va_W} {D : va_G} {cl : List vw_C} {H : Heap} (hP : va_P D cl (((X ++ pl) ++ [x]) ++ rows) H) : va_P D cl ((X ++ [x]) ++ (pl ++ rows)) H := by
  rw [List.append_assoc (X ++ pl)] at hP
  have h := va_P.swap hP
  rw [← List.append_assoc X] at h
  have h2 := va_P.swap h
  rw [List.append_assoc (X ++ [x])] at h2
  exact h2
theorem vr_layD {X rows : va_W} {x : Nat × va_E} {pl : va_W} {A : Nat → Prop} (hD : va_D A (((X ++ pl) ++ [x]) ++ rows)) : va_D A ((X ++ [x]) ++ (pl ++ rows)) := by
  rw [List.append_assoc (X ++ pl)] at hD
  have h := va_D.swap hD
  rw [← List.append_assoc X] at h
  have h2 := va_D.swap h
  rw [List.append_assoc (X ++ [x])] at h2
  exact h2
theorem vr_outer (c : ClassId) (N h0 : Nat) : ∀ i : Nat, Jvm.Free.Multi.outerC c N h0 i = arrV c N (fun j => va_rf (if j < i then some (h0 + 1 + j) else none))
  | 0 => by
    show ({ cls := c, slots := Array.replicate N .null, vm := .none } : Cell) = _
    rw [arrV_new]
    refine congrArg (arrV c N) (funext fun j => ?_)
    simp [va_rf]
  | i + 1 => by
    show (Jvm.Free.Multi.outerC c N h0 i).setSlot i (.ref (h0 + 1 + i)) = _
    rw [vr_outer c N h0 i, arrV_store]
    refine congrArg (arrV c N) (funext fun j => ?_)
    by_cases e : j = i
    · subst e
      simp [updV, va_rf]
    · by_cases h : j < i
      · simp [updV, e, h, Nat.lt_succ_of_lt h]
      · simp [updV, e, h, show ¬ j < i + 1 by omega]
section VGM
variable {p : Program} {l : Launch} {e : Env} {R : Room} {s : State} {m : MethodId} {args : Array Value} {below : List Frame} {meth : Method} {c : Code} {H : Heap} {locs : List Loc} {cells slots : Nat} {Q : State → Prop}
variable {cc : ByteArray} {pc : Nat} {ls : Array Slot} {rest : List Value} {D : va_G} {cl : List vw_C} {A : Nat → Prop} {a : Nat} {tys : List (ClassId × FieldType)} {ws : va_W} {H0 : Heap}
theorem va_mna {X : va_W} {L : List Nat} {f : Nat → va_E} {cc : ByteArray} (hexec : p.tables.exec = Jvm.exec) (hb : c.code = cc) {own : String} {index : Nat} {ty : FieldType} {cy : ClassId} (hown : s.vm.findClass own = some m.cls) (hclink : (Cond.classLink own index ("[" ++ (FieldType.array ty).toString)).before args s = true) (hover : va_AOA ty s) (harr : (Cond.arrayClass ty).before args s = true) (hcy : s.vm.findClass (FieldType.array ty).toString = some cy)
    (hK : va_K D cl tys s) (hP : va_P D cl (X ++ va_pl L f) H) (hD : va_D A (X ++ va_pl L f)) (hS : va_S A H0 H locs) (hA : ∀ q, H0.size ≤ q → A q) {n k : Int32} {N' K' : Nat} {z : vp_A} (hn : ¬ n < 0) (hk : ¬ k < 0) (hN : n.toNatClampNeg = N') (hM : k.toNatClampNeg = K')
    (hb1 : N' * 4 ≤ 536870912) (hb2 : K' * componentBytes ty ≤ 536870912) (hb3 : K' ≤ 536870912) (hdf : fits ty (defaultValue ty) = true) (hdd : (defaultValue ty).isDefault = true) (hcells : cells + (1 + N') ≤ R.cells) (hslots : slots + (N' + N' * K') ≤ R.slots) (hz : ∀ c : ClassId, Jvm.Free.Multi.innerC c K' (defaultValue ty) = vp_cell c z) (hdg : decode cc pc = .ok (.multianewarray index 2, 4))
    (kk : ∀ (q : Nat) (r : Nat → Nat) (cA : ClassId) (H1 : Heap), (∀ i j : Nat, i < N' → j < N' → r i = r j → i = j) → (∀ i : Nat, i < N' → r i ∉ L) → va_K D cl (tys ++ [(cA, .array ty)]) s →
      va_P D cl ((X ++ [(q, .inl (cA, N', .inr (.inr (.inr (.inr (fun i => if i < N' then some (r i) else none))))))]) ++ va_pl (L ++ (List.range N').map r) (vr_up f ((List.range N').map r) (.inl (cy, z)))) H1 → va_D A ((X ++ [(q, .inl (cA, N', .inr (.inr (.inr (.inr (fun i => if i < N' then some (r i) else none))))))]) ++ va_pl (L ++ (List.range N').map r) (vr_up f ((List.range N').map r) (.inl (cy, z)))) → va_S A H0 H1 locs →
      W p l e R s m args below meth c H1 locs (cells + 1 + N') (slots + N' + N' * K') Q (F0 m (pc + 4) ls (.ref q :: rest))) : W p l e R s m args below meth c H locs cells slots Q (F0 m pc ls (.int k :: .int n :: rest)) := by
  subst hN
  subst hM
  intro T hT Xs
  obtain ⟨vm₁, cA, comp, -, fA, fC, hO, -, X', step⟩ := Xs.multianewarray2F hexec hown hclink (va_AOA.use hover) harr (g := F0 m pc ls (.int k :: .int n :: rest)) rfl (by rw [hb]; exact hdg) rfl hn hk hb1 hb2 hb3 hdf hdd hcells hslots
  have ec : some cy = some comp := hcy.symm.trans fC
  cases ec
  generalize hF : Jvm.Free.Multi.fill (T.setVm vm₁) cA cy n.toNatClampNeg k.toNatClampNeg (defaultValue ty) n.toNatClampNeg = F at X' step
  have hTh : (T.setVm vm₁).heap = H := hT
  obtain ⟨f1, f2, -, -⟩ := Jvm.Free.Multi.fill_facts (T.setVm vm₁) cA cy n.toNatClampNeg k.toNatClampNeg (defaultValue ty) n.toNatClampNeg
  rw [hF, hTh] at f1 f2
  have hold : ∀ x : Nat, x < H.size → F.heap[x]? = H[x]? := fun x hx => by
    have := Jvm.Free.Multi.fill_old (T.setVm vm₁) cA cy n.toNatClampNeg k.toNatClampNeg (defaultValue ty) (a := x) (by rw [hTh]; exact hx) n.toNatClampNeg
    rw [hF, hTh] at this
    exact this
  have hrow : ∀ j : Nat, j < n.toNatClampNeg → F.heap[H.size + 1 + j]? = some (vp_cell cy z) := fun j hj => by
    have := Jvm.Free.Multi.fill_inner (T.setVm vm₁) cA cy n.toNatClampNeg k.toNatClampNeg (defaultValue ty) n.toNatClampNeg j hj
    rw [hF, hTh, hz] at this
    exact this
  have hout : Jvm.Free.Multi.outerC cA n.toNatClampNeg H.size n.toNatClampNeg = vp_cell cA (n.toNatClampNeg, .inr (.inr (.inr (.inr (fun i => if i < n.toNatClampNeg then some (H.size + 1 + i) else none))))) := by
    rw [vp_cell_q]
    exact vr_outer cA n.toNatClampNeg H.size n.toNatClampNeg
  rw [hout] at f2
  have hlt : ∀ a, a ∈ L → a < H.size := fun a ha => by
    obtain ⟨k9, hk9⟩ := va_pl_get (X := X) (f := f) ha
    exact (hP k9 _ hk9).lt
  have hnl : ∀ i : Nat, i < n.toNatClampNeg → H.size + 1 + i ∉ L := fun i _ h => by
    have := hlt _ h
    omega
  have hnm : ∀ a, a ∈ (List.range n.toNatClampNeg).map (fun i => H.size + 1 + i) → a ∉ L := fun a ha h => by
    obtain ⟨i, -, rfl⟩ := List.mem_map.mp ha
    have := hlt _ h
    omega
  have hP0 : va_P D cl (X ++ va_pl L f) F.heap := hP.kept (fun k9 x hx => hold x.1 ((hP k9 x hx).lt))
  have hP1 : va_P D cl ((X ++ va_pl L f) ++ [(H.size, .inl (cA, n.toNatClampNeg, .inr (.inr (.inr (.inr (fun i => if i < n.toNatClampNeg then some (H.size + 1 + i) else none))))))]) F.heap := hP0.app (fun k9 x hx => by
    have h0 : k9 < 1 := (List.getElem?_eq_some_iff.mp hx).1
    rw [show k9 = 0 by omega] at hx
    cases hx
    exact f2)
  have hP2 : va_P D cl (((X ++ va_pl L f) ++ [(H.size, .inl (cA, n.toNatClampNeg, .inr (.inr (.inr (.inr (fun i => if i < n.toNatClampNeg then some (H.size + 1 + i) else none))))))]) ++ ((List.range n.toNatClampNeg).map (fun i => H.size + 1 + i)).map (fun a => (a, .inl (cy, z)))) F.heap := hP1.app (fun k9 x hx => by
    obtain ⟨a, ha, rfl⟩ := List.mem_map.mp (List.mem_of_getElem? hx)
    obtain ⟨i, hi, rfl⟩ := List.mem_map.mp ha
    exact hrow i (List.mem_range.mp hi))
  have hD2 : va_D A (((X ++ va_pl L f) ++ [(H.size, .inl (cA, n.toNatClampNeg, .inr (.inr (.inr (.inr (fun i => if i < n.toNatClampNeg then some (H.size + 1 + i) else none))))))]) ++ ((List.range n.toNatClampNeg).map (fun i => H.size + 1 + i)).map (fun a => (a, .inl (cy, z)))) := by
    have hD1 := hD.push (e := .inl (cA, n.toNatClampNeg, .inr (.inr (.inr (.inr (fun i => if i < n.toNatClampNeg then some (H.size + 1 + i) else none)))))) hP rfl (hA _ hS.1)
    generalize hW1 : (X ++ va_pl L f) ++ [(H.size, .inl (cA, n.toNatClampNeg, .inr (.inr (.inr (.inr (fun i => if i < n.toNatClampNeg then some (H.size + 1 + i) else none))))))] = W1 at hD1 hP1 ⊢
    have hle : ∀ (k9 : Nat) (x : Nat × va_E), W1[k9]? = some x → x.1 ≤ H.size := fun k9 x hx => by
      rw [← hW1] at hx
      by_cases hl : k9 < (X ++ va_pl L f).length
      · rw [List.getElem?_append_left hl] at hx
        exact Nat.le_of_lt ((hP k9 x hx).lt)
      · rw [List.getElem?_append_right (by omega)] at hx
        have h0 : k9 - (X ++ va_pl L f).length < 1 := (List.getElem?_eq_some_iff.mp hx).1
        rw [show k9 - (X ++ va_pl L f).length = 0 by omega] at hx
        cases hx
        exact Nat.le_refl _
    have hr : ∀ (k9 : Nat) (x : Nat × va_E), (((List.range n.toNatClampNeg).map (fun i => H.size + 1 + i)).map (fun a => ((a, .inl (cy, z)) : Nat × va_E)))[k9]? = some x → x.1 = H.size + 1 + k9 := fun k9 x hx => by
      rw [List.getElem?_map, List.getElem?_map] at hx
      by_cases h9 : k9 < n.toNatClampNeg
      · rw [List.getElem?_range h9] at hx
        cases hx
        rfl
      · have hn0 : (List.range n.toNatClampNeg)[k9]? = none := List.getElem?_eq_none (by rw [List.length_range]; omega)
        rw [hn0] at hx
        cases hx
    refine ⟨fun i j x y hi hj hxy => ?_, fun k9 x hx => ?_⟩
    · by_cases h1 : i < W1.length <;> by_cases h2 : j < W1.length
      · rw [List.getElem?_append_left h1] at hi
        rw [List.getElem?_append_left h2] at hj
        exact hD1.1 i j x y hi hj hxy
      · rw [List.getElem?_append_left h1] at hi
        rw [List.getElem?_append_right (by omega)] at hj
        have := hle _ _ hi
        have := hr _ _ hj
        omega
      · rw [List.getElem?_append_right (by omega)] at hi
        rw [List.getElem?_append_left h2] at hj
        have := hle _ _ hj
        have := hr _ _ hi
        omega
      · rw [List.getElem?_append_right (by omega)] at hi hj
        have := hr _ _ hi
        have := hr _ _ hj
        omega
    · by_cases h1 : k9 < W1.length
      · rw [List.getElem?_append_left h1] at hx
        exact hD1.2 k9 x hx
      · rw [List.getElem?_append_right (by omega)] at hx
        have := hr _ _ hx
        exact hA _ (by have := hS.1; omega)
  have hAr : ArrOfT s cA (.array ty) := fun N9 z9 => by
    obtain ⟨-, k9, hk9, cm9, hkk9⟩ := (hO 0 0 0).1
    exact ⟨(fun q hq => by cases hq), k9, hk9, cm9, hkk9⟩
  have hK2 : va_K D cl (tys ++ [(cA, .array ty)]) s := ⟨hK.1, fun k9 x hx => by
    by_cases hl : k9 < tys.length
    · rw [List.getElem?_append_left hl] at hx
      exact hK.2 k9 x hx
    · rw [List.getElem?_append_right (by omega)] at hx
      have h0 : k9 - tys.length < 1 := (List.getElem?_eq_some_iff.mp hx).1
      rw [show k9 - tys.length = 0 by omega] at hx
      cases hx
      exact ⟨hAr, fA⟩⟩
  obtain ⟨t, a1, b1⟩ := kk H.size (fun i => H.size + 1 + i) cA F.heap (fun i j _ _ h => by have h9 : H.size + 1 + i = H.size + 1 + j := h; omega) hnl hK2 (by rw [← vr_rows hnm]; exact vr_lay hP2) (by rw [← vr_rows hnm]; exact vr_layD hD2) ⟨by rw [f1]; have := hS.1; omega, fun x h1 h2 => (hold x (Nat.lt_of_lt_of_le h1 hS.1)).trans (hS.2.1 x h1 h2), hS.2.2⟩ F rfl X'
  refine ⟨t, step t ?_, b1⟩
  have e : T.heap.size = H.size := by rw [hT]
  rw [e]
  exact a1
end VGM
/-! ===== END ===== -/


def RX0 : String := "UncutTale$Course"
def TX0 : u_T := fun k => match k with
  | 0 => ("UncutTale$Course", "story", "LUncutTale$Story;", true)
  | 1 => ("UncutTale$Course", "near", "[I", true)
  | 2 => ("UncutTale$Course", "airings", "[I", true)
  | 3 => ("UncutTale$Course", "toCut", "[I", true)
  | 4 => ("UncutTale$Course", "open", "[I", true)
  | 5 => ("UncutTale$Course", "openedAt", "[I", true)
  | 6 => ("UncutTale$Course", "trace", "[I", true)
  | 7 => ("UncutTale$Course", "law", "I", false)
  | 8 => ("UncutTale$Course", "sewn", "I", false)
  | _ => ("UncutTale$Course", "ofThemselves", "I", false)
def tyX0 : Nat → FieldType := fun k => match k with
  | 0 => .object "UncutTale$Story"
  | 1 => .array .int
  | 2 => .array .int
  | 3 => .array .int
  | 4 => .array .int
  | 5 => .array .int
  | 6 => .array .int
  | 7 => .int
  | 8 => .int
  | _ => .int
abbrev wsX00 : List Cond := u_ws RX0 TX0 10
theorem nmX0 : ∀ a, a < 10 → ∀ b, b < 10 → a ≠ b → (TX0 a).2.1 ≠ (TX0 b).2.1 := by decide +kernel
theorem tyX0_ok : ∀ k, k < 10 → parseFieldDescriptor (TX0 k).2.2.1 = some (tyX0 k) := by decide +kernel
abbrev cX0_init : ByteArray := prog_2_method_1_code
def yX0_init : MethodName := ⟨RX0, "<init>", "(LUncutTale$Story;)V"⟩
abbrev cX0_begin : ByteArray := prog_2_method_2_code
def yX0_begin : MethodName := ⟨RX0, "begin", "(I)V"⟩
abbrev cX0_unfoldWith : ByteArray := prog_2_method_3_code
def yX0_unfoldWith : MethodName := ⟨RX0, "unfoldWith", "(I)V"⟩
abbrev cX0_unfoldBy : ByteArray := prog_2_method_4_code
def yX0_unfoldBy : MethodName := ⟨RX0, "unfoldBy", "(II)V"⟩
abbrev cX0_unfold : ByteArray := prog_2_method_5_code
def yX0_unfold : MethodName := ⟨RX0, "unfold", "()V"⟩
abbrev cX0_noteOpenings : ByteArray := prog_2_method_6_code
def yX0_noteOpenings : MethodName := ⟨RX0, "noteOpenings", "(II)V"⟩
abbrev cX0_settle : ByteArray := prog_2_method_7_code
def yX0_settle : MethodName := ⟨RX0, "settle", "(I)I"⟩
abbrev cX0_openIn : ByteArray := prog_2_method_8_code
def yX0_openIn : MethodName := ⟨RX0, "openIn", "(I)I"⟩
abbrev cX0_openingYear : ByteArray := prog_2_method_9_code
def yX0_openingYear : MethodName := ⟨RX0, "openingYear", "(I)I"⟩
abbrev cX0_stiffness : ByteArray := prog_2_method_10_code
def yX0_stiffness : MethodName := ⟨RX0, "stiffness", "(II)I"⟩
abbrev cX0_follow : ByteArray := prog_2_method_11_code
def yX0_follow : MethodName := ⟨RX0, "follow", "(III)I"⟩
abbrev cX0_aired : ByteArray := prog_2_method_12_code
def yX0_aired : MethodName := ⟨RX0, "aired", "(III)I"⟩
abbrev cX0_waited : ByteArray := prog_2_method_13_code
def yX0_waited : MethodName := ⟨RX0, "waited", "(III)I"⟩
abbrev cX0_readFor : ByteArray := prog_2_method_14_code
def yX0_readFor : MethodName := ⟨RX0, "readFor", "(I)I"⟩
abbrev cX0_readIn : ByteArray := prog_2_method_15_code
def yX0_readIn : MethodName := ⟨RX0, "readIn", "(I)I"⟩
abbrev cX0_readInAll : ByteArray := prog_2_method_16_code
def yX0_readInAll : MethodName := ⟨RX0, "readInAll", "()I"⟩
abbrev cX0_shutWorth : ByteArray := prog_2_method_17_code
def yX0_shutWorth : MethodName := ⟨RX0, "shutWorth", "(II)I"⟩
def RX1 : String := "UncutTale$Guess"
def TX1 : u_T := fun k => match k with
  | 0 => ("UncutTale$Guess", "story", "LUncutTale$Story;", true)
  | 1 => ("UncutTale$Guess", "slots", "LUncutTale$Slots;", true)
  | 2 => ("UncutTale$Guess", "fits", "[Z", true)
  | 3 => ("UncutTale$Guess", "tally", "[I", true)
  | 4 => ("UncutTale$Guess", "askedYear", "I", false)
  | _ => ("UncutTale$Guess", "left", "I", false)
def tyX1 : Nat → FieldType := fun k => match k with
  | 0 => .object "UncutTale$Story"
  | 1 => .object "UncutTale$Slots"
  | 2 => .array .boolean
  | 3 => .array .int
  | 4 => .int
  | _ => .int
abbrev wsX10 : List Cond := u_ws RX1 TX1 6
theorem nmX1 : ∀ a, a < 6 → ∀ b, b < 6 → a ≠ b → (TX1 a).2.1 ≠ (TX1 b).2.1 := by decide +kernel
theorem tyX1_ok : ∀ k, k < 6 → parseFieldDescriptor (TX1 k).2.2.1 = some (tyX1 k) := by decide +kernel
abbrev cX1_init : ByteArray := prog_3_method_1_code
def yX1_init : MethodName := ⟨RX1, "<init>", "(LUncutTale$Story;LUncutTale$Slots;)V"⟩
abbrev cX1_isSeenRow : ByteArray := prog_3_method_2_code
def yX1_isSeenRow : MethodName := ⟨RX1, "isSeenRow", "(I)Z"⟩
abbrev cX1_isAsSeen : ByteArray := prog_3_method_3_code
def yX1_isAsSeen : MethodName := ⟨RX1, "isAsSeen", "(IILUncutTale$Course;)Z"⟩
abbrev cX1_howMany : ByteArray := prog_3_method_4_code
def yX1_howMany : MethodName := ⟨RX1, "howMany", "(IILUncutTale$Course;)I"⟩
abbrev cX1_isTraceAsSeen : ByteArray := prog_3_method_5_code
def yX1_isTraceAsSeen : MethodName := ⟨RX1, "isTraceAsSeen", "(IILUncutTale$Course;)Z"⟩
abbrev cX1_least : ByteArray := prog_3_method_6_code
def yX1_least : MethodName := ⟨RX1, "least", "()I"⟩
abbrev cX1_greatest : ByteArray := prog_3_method_7_code
def yX1_greatest : MethodName := ⟨RX1, "greatest", "()I"⟩
abbrev cX1_choose : ByteArray := prog_3_method_8_code
def yX1_choose : MethodName := ⟨RX1, "choose", "(IILUncutTale$Course;)V"⟩
abbrev cX1_tallyTraces : ByteArray := prog_3_method_9_code
def yX1_tallyTraces : MethodName := ⟨RX1, "tallyTraces", "(ILUncutTale$Course;)V"⟩
abbrev cX1_worstIn : ByteArray := prog_3_method_10_code
def yX1_worstIn : MethodName := ⟨RX1, "worstIn", "(I)I"⟩
def RX2 : String := "UncutTale$Odds"
def TX2 : u_T := fun k => match k with
  | 0 => ("UncutTale$Odds", "story", "LUncutTale$Story;", true)
  | 1 => ("UncutTale$Odds", "course", "LUncutTale$Course;", true)
  | 2 => ("UncutTale$Odds", "openWeight", "[J", true)
  | 3 => ("UncutTale$Odds", "readWeight", "J", false)
  | _ => ("UncutTale$Odds", "whole", "J", false)
def tyX2 : Nat → FieldType := fun k => match k with
  | 0 => .object "UncutTale$Story"
  | 1 => .object "UncutTale$Course"
  | 2 => .array .long
  | 3 => .long
  | _ => .long
abbrev wsX20 : List Cond := u_ws RX2 TX2 5
theorem nmX2 : ∀ a, a < 5 → ∀ b, b < 5 → a ≠ b → (TX2 a).2.1 ≠ (TX2 b).2.1 := by decide +kernel
theorem tyX2_ok : ∀ k, k < 5 → parseFieldDescriptor (TX2 k).2.2.1 = some (tyX2 k) := by decide +kernel
abbrev cX2_init : ByteArray := prog_4_method_1_code
def yX2_init : MethodName := ⟨RX2, "<init>", "(LUncutTale$Story;LUncutTale$Course;)V"⟩
abbrev cX2_weigh : ByteArray := prog_4_method_2_code
def yX2_weigh : MethodName := ⟨RX2, "weigh", "()V"⟩
abbrev cX2_weightOf : ByteArray := prog_4_method_3_code
def yX2_weightOf : MethodName := ⟨RX2, "weightOf", "(I)J"⟩
abbrev cX2_addToOpen : ByteArray := prog_4_method_4_code
def yX2_addToOpen : MethodName := ⟨RX2, "addToOpen", "(J)V"⟩
def RX3 : String := "UncutTale$Parser"
def TX3 : u_T := fun k => match k with
  | 0 => ("UncutTale$Parser", "tape", "LUncutTale$Tape;", true)
  | 1 => ("UncutTale$Parser", "draft", "LUncutTale$Story;", true)
  | 2 => ("UncutTale$Parser", "kind", "I", false)
  | 3 => ("UncutTale$Parser", "start", "I", false)
  | 4 => ("UncutTale$Parser", "stop", "I", false)
  | 5 => ("UncutTale$Parser", "value", "I", false)
  | 6 => ("UncutTale$Parser", "fault", "I", false)
  | _ => ("UncutTale$Parser", "faultPlace", "I", false)
def tyX3 : Nat → FieldType := fun k => match k with
  | 0 => .object "UncutTale$Tape"
  | 1 => .object "UncutTale$Story"
  | 2 => .int
  | 3 => .int
  | 4 => .int
  | 5 => .int
  | 6 => .int
  | _ => .int
abbrev wsX30 : List Cond := u_ws RX3 TX3 8
theorem nmX3 : ∀ a, a < 8 → ∀ b, b < 8 → a ≠ b → (TX3 a).2.1 ≠ (TX3 b).2.1 := by decide +kernel
theorem tyX3_ok : ∀ k, k < 8 → parseFieldDescriptor (TX3 k).2.2.1 = some (tyX3 k) := by decide +kernel
abbrev cX3_init : ByteArray := prog_5_method_1_code
def yX3_init : MethodName := ⟨RX3, "<init>", "(LUncutTale$Tape;LUncutTale$Story;)V"⟩
abbrev cX3_parse : ByteArray := prog_5_method_2_code
def yX3_parse : MethodName := ⟨RX3, "parse", "()Z"⟩
abbrev cX3_takeLine : ByteArray := prog_5_method_3_code
def yX3_takeLine : MethodName := ⟨RX3, "takeLine", "()Z"⟩
abbrev cX3_takeHead : ByteArray := prog_5_method_4_code
def yX3_takeHead : MethodName := ⟨RX3, "takeHead", "()Z"⟩
abbrev cX3_takePart : ByteArray := prog_5_method_5_code
def yX3_takePart : MethodName := ⟨RX3, "takePart", "()Z"⟩
abbrev cX3_takeFold : ByteArray := prog_5_method_6_code
def yX3_takeFold : MethodName := ⟨RX3, "takeFold", "()Z"⟩
abbrev cX3_takeKnife : ByteArray := prog_5_method_7_code
def yX3_takeKnife : MethodName := ⟨RX3, "takeKnife", "()Z"⟩
abbrev cX3_takeSign : ByteArray := prog_5_method_8_code
def yX3_takeSign : MethodName := ⟨RX3, "takeSign", "()Z"⟩
abbrev cX3_takeNamed : ByteArray := prog_5_method_9_code
def yX3_takeNamed : MethodName := ⟨RX3, "takeNamed", "(Ljava/lang/String;II)I"⟩
abbrev cX3_takeWord : ByteArray := prog_5_method_10_code
def yX3_takeWord : MethodName := ⟨RX3, "takeWord", "(Ljava/lang/String;)V"⟩
abbrev cX3_takeNumber : ByteArray := prog_5_method_11_code
def yX3_takeNumber : MethodName := ⟨RX3, "takeNumber", "(II)I"⟩
abbrev cX3_refuse : ByteArray := prog_5_method_12_code
def yX3_refuse : MethodName := ⟨RX3, "refuse", "(I)Z"⟩
abbrev cX3_advance : ByteArray := prog_5_method_13_code
def yX3_advance : MethodName := ⟨RX3, "advance", "()V"⟩
abbrev cX3_isWord : ByteArray := prog_5_method_14_code
def yX3_isWord : MethodName := ⟨RX3, "isWord", "(Ljava/lang/String;)Z"⟩
abbrev cX3_kindOf : ByteArray := prog_5_method_15_code
def yX3_kindOf : MethodName := ⟨RX3, "kindOf", "(I)I"⟩
def RX4 : String := "UncutTale$Planner"
def TX4 : u_T := fun k => match k with
  | 0 => ("UncutTale$Planner", "story", "LUncutTale$Story;", true)
  | 1 => ("UncutTale$Planner", "course", "LUncutTale$Course;", true)
  | 2 => ("UncutTale$Planner", "stiff", "[[I", true)
  | 3 => ("UncutTale$Planner", "open", "[I", true)
  | 4 => ("UncutTale$Planner", "read", "[I", true)
  | 5 => ("UncutTale$Planner", "choice", "[I", true)
  | 6 => ("UncutTale$Planner", "firstRow", "[I", true)
  | 7 => ("UncutTale$Planner", "most", "I", false)
  | _ => ("UncutTale$Planner", "rows", "I", false)
def tyX4 : Nat → FieldType := fun k => match k with
  | 0 => .object "UncutTale$Story"
  | 1 => .object "UncutTale$Course"
  | 2 => .array (.array .int)
  | 3 => .array .int
  | 4 => .array .int
  | 5 => .array .int
  | 6 => .array .int
  | 7 => .int
  | _ => .int
abbrev wsX40 : List Cond := u_ws RX4 TX4 9
theorem nmX4 : ∀ a, a < 9 → ∀ b, b < 9 → a ≠ b → (TX4 a).2.1 ≠ (TX4 b).2.1 := by decide +kernel
theorem tyX4_ok : ∀ k, k < 9 → parseFieldDescriptor (TX4 k).2.2.1 = some (tyX4 k) := by decide +kernel
abbrev cX4_init : ByteArray := prog_6_method_1_code
def yX4_init : MethodName := ⟨RX4, "<init>", "(LUncutTale$Story;LUncutTale$Course;)V"⟩
abbrev cX4_search : ByteArray := prog_6_method_2_code
def yX4_search : MethodName := ⟨RX4, "search", "(I)V"⟩
abbrev cX4_spend : ByteArray := prog_6_method_3_code
def yX4_spend : MethodName := ⟨RX4, "spend", "(I)V"⟩
abbrev cX4_compare : ByteArray := prog_6_method_4_code
def yX4_compare : MethodName := ⟨RX4, "compare", "(I)V"⟩
def RX5 : String := "UncutTale$Slots"
def TX5 : u_T := fun k => match k with
  | 0 => ("UncutTale$Slots", "widths", "[I", true)
  | 1 => ("UncutTale$Slots", "sizes", "[I", true)
  | _ => ("UncutTale$Slots", "numbers", "[J", true)
def tyX5 : Nat → FieldType := fun k => match k with
  | 0 => .array .int
  | 1 => .array .int
  | _ => .array .long
abbrev wsX50 : List Cond := u_ws RX5 TX5 3
theorem nmX5 : ∀ a, a < 3 → ∀ b, b < 3 → a ≠ b → (TX5 a).2.1 ≠ (TX5 b).2.1 := by decide +kernel
theorem tyX5_ok : ∀ k, k < 3 → parseFieldDescriptor (TX5 k).2.2.1 = some (tyX5 k) := by decide +kernel
abbrev cX5_init : ByteArray := prog_7_method_1_code
def yX5_init : MethodName := ⟨RX5, "<init>", "()V"⟩
abbrev cX5_isSlot : ByteArray := prog_7_method_2_code
def yX5_isSlot : MethodName := ⟨RX5, "isSlot", "(I)Z"⟩
abbrev cX5_isBare : ByteArray := prog_7_method_3_code
def yX5_isBare : MethodName := ⟨RX5, "isBare", "(I)Z"⟩
abbrev cX5_areOfOneWidth : ByteArray := prog_7_method_4_code
def yX5_areOfOneWidth : MethodName := ⟨RX5, "areOfOneWidth", "(II)Z"⟩
abbrev cX5_covers : ByteArray := prog_7_method_5_code
def yX5_covers : MethodName := ⟨RX5, "covers", "(III)Z"⟩
abbrev cX5_filled : ByteArray := prog_7_method_6_code
def yX5_filled : MethodName := ⟨RX5, "filled", "()I"⟩
abbrev cX5_size : ByteArray := prog_7_method_7_code
def yX5_size : MethodName := ⟨RX5, "size", "(I)I"⟩
abbrev cX5_number : ByteArray := prog_7_method_8_code
def yX5_number : MethodName := ⟨RX5, "number", "(II)J"⟩
abbrev cX5_lay : ByteArray := prog_7_method_9_code
def yX5_lay : MethodName := ⟨RX5, "lay", "(III)V"⟩
abbrev cX5_put : ByteArray := prog_7_method_10_code
def yX5_put : MethodName := ⟨RX5, "put", "(IIJ)V"⟩
abbrev cX5_cutTo : ByteArray := prog_7_method_11_code
def yX5_cutTo : MethodName := ⟨RX5, "cutTo", "(IJ)J"⟩
abbrev cX5_move : ByteArray := prog_7_method_12_code
def yX5_move : MethodName := ⟨RX5, "move", "(IIIII)V"⟩
def RX6 : String := "UncutTale$Story"
def TX6 : u_T := fun k => match k with
  | 0 => ("UncutTale$Story", "charm", "[I", true)
  | 1 => ("UncutTale$Story", "tires", "[I", true)
  | 2 => ("UncutTale$Story", "toldStiff", "[I", true)
  | 3 => ("UncutTale$Story", "foldFrom", "[I", true)
  | 4 => ("UncutTale$Story", "foldTo", "[I", true)
  | 5 => ("UncutTale$Story", "knifePart", "[I", true)
  | 6 => ("UncutTale$Story", "knifeYear", "[I", true)
  | 7 => ("UncutTale$Story", "actKind", "[I", true)
  | 8 => ("UncutTale$Story", "actPart", "[I", true)
  | 9 => ("UncutTale$Story", "actYear", "[I", true)
  | 10 => ("UncutTale$Story", "years", "I", false)
  | 11 => ("UncutTale$Story", "law", "I", false)
  | 12 => ("UncutTale$Story", "odds", "I", false)
  | 13 => ("UncutTale$Story", "parts", "I", false)
  | 14 => ("UncutTale$Story", "folds", "I", false)
  | 15 => ("UncutTale$Story", "knives", "I", false)
  | 16 => ("UncutTale$Story", "acts", "I", false)
  | _ => ("UncutTale$Story", "lines", "I", false)
def tyX6 : Nat → FieldType := fun k => match k with
  | 0 => .array .int
  | 1 => .array .int
  | 2 => .array .int
  | 3 => .array .int
  | 4 => .array .int
  | 5 => .array .int
  | 6 => .array .int
  | 7 => .array .int
  | 8 => .array .int
  | 9 => .array .int
  | 10 => .int
  | 11 => .int
  | 12 => .int
  | 13 => .int
  | 14 => .int
  | 15 => .int
  | 16 => .int
  | _ => .int
abbrev wsX60 : List Cond := u_ws RX6 TX6 18
theorem nmX6 : ∀ a, a < 18 → ∀ b, b < 18 → a ≠ b → (TX6 a).2.1 ≠ (TX6 b).2.1 := by decide +kernel
theorem tyX6_ok : ∀ k, k < 18 → parseFieldDescriptor (TX6 k).2.2.1 = some (tyX6 k) := by decide +kernel
abbrev cX6_init : ByteArray := prog_8_method_1_code
def yX6_init : MethodName := ⟨RX6, "<init>", "()V"⟩
abbrev cX6_clear : ByteArray := prog_8_method_2_code
def yX6_clear : MethodName := ⟨RX6, "clear", "()V"⟩
abbrev cX6_become : ByteArray := prog_8_method_3_code
def yX6_become : MethodName := ⟨RX6, "become", "(LUncutTale$Story;)V"⟩
abbrev cX6_addPart : ByteArray := prog_8_method_4_code
def yX6_addPart : MethodName := ⟨RX6, "addPart", "(III)V"⟩
abbrev cX6_addFold : ByteArray := prog_8_method_5_code
def yX6_addFold : MethodName := ⟨RX6, "addFold", "(II)V"⟩
abbrev cX6_addKnife : ByteArray := prog_8_method_6_code
def yX6_addKnife : MethodName := ⟨RX6, "addKnife", "(II)V"⟩
abbrev cX6_addAct : ByteArray := prog_8_method_7_code
def yX6_addAct : MethodName := ⟨RX6, "addAct", "(III)V"⟩
abbrev cX6_isTold : ByteArray := prog_8_method_8_code
def yX6_isTold : MethodName := ⟨RX6, "isTold", "()Z"⟩
abbrev cX6_hasPart : ByteArray := prog_8_method_9_code
def yX6_hasPart : MethodName := ⟨RX6, "hasPart", "(I)Z"⟩
abbrev cX6_hasYear : ByteArray := prog_8_method_10_code
def yX6_hasYear : MethodName := ⟨RX6, "hasYear", "(I)Z"⟩
abbrev cX6_hasWorkingYear : ByteArray := prog_8_method_11_code
def yX6_hasWorkingYear : MethodName := ⟨RX6, "hasWorkingYear", "(I)Z"⟩
abbrev cX6_everyPart : ByteArray := prog_8_method_12_code
def yX6_everyPart : MethodName := ⟨RX6, "everyPart", "()I"⟩
abbrev cX6_everyKnife : ByteArray := prog_8_method_13_code
def yX6_everyKnife : MethodName := ⟨RX6, "everyKnife", "()I"⟩
abbrev cX6_areJoined : ByteArray := prog_8_method_14_code
def yX6_areJoined : MethodName := ⟨RX6, "areJoined", "(II)Z"⟩
abbrev cX6_neighbours : ByteArray := prog_8_method_15_code
def yX6_neighbours : MethodName := ⟨RX6, "neighbours", "(II)I"⟩
abbrev cX6_spread : ByteArray := prog_8_method_16_code
def yX6_spread : MethodName := ⟨RX6, "spread", "(I)I"⟩
abbrev cX6_joinedWith : ByteArray := prog_8_method_17_code
def yX6_joinedWith : MethodName := ⟨RX6, "joinedWith", "(I)I"⟩
def RX7 : String := "UncutTale$Tape"
def TX7 : u_T := fun k => match k with
  | 0 => ("UncutTale$Tape", "bytes", "[B", true)
  | _ => ("UncutTale$Tape", "length", "I", false)
def tyX7 : Nat → FieldType := fun k => match k with
  | 0 => .array .byte
  | _ => .int
abbrev wsX70 : List Cond := u_ws RX7 TX7 2
theorem nmX7 : ∀ a, a < 2 → ∀ b, b < 2 → a ≠ b → (TX7 a).2.1 ≠ (TX7 b).2.1 := by decide +kernel
theorem tyX7_ok : ∀ k, k < 2 → parseFieldDescriptor (TX7 k).2.2.1 = some (tyX7 k) := by decide +kernel
abbrev cX7_init : ByteArray := prog_9_method_1_code
def yX7_init : MethodName := ⟨RX7, "<init>", "()V"⟩
abbrev cX7_hasRoomForFive : ByteArray := prog_9_method_2_code
def yX7_hasRoomForFive : MethodName := ⟨RX7, "hasRoomForFive", "()Z"⟩
abbrev cX7_append : ByteArray := prog_9_method_3_code
def yX7_append : MethodName := ⟨RX7, "append", "(I)V"⟩
abbrev cX7_at : ByteArray := prog_9_method_4_code
def yX7_at : MethodName := ⟨RX7, "at", "(I)I"⟩
def RX8 : String := "UncutTale"
def TX8 : u_T := fun k => match k with
  | 0 => ("UncutTale", "tape", "LUncutTale$Tape;", true)
  | 1 => ("UncutTale", "draft", "LUncutTale$Story;", true)
  | 2 => ("UncutTale", "parser", "LUncutTale$Parser;", true)
  | 3 => ("UncutTale", "story", "LUncutTale$Story;", true)
  | 4 => ("UncutTale", "images", "[LUncutTale$Story;", true)
  | 5 => ("UncutTale", "imaged", "[Z", true)
  | 6 => ("UncutTale", "slots", "LUncutTale$Slots;", true)
  | 7 => ("UncutTale", "now", "LUncutTale$Course;", true)
  | 8 => ("UncutTale", "trial", "LUncutTale$Course;", true)
  | 9 => ("UncutTale", "planner", "LUncutTale$Planner;", true)
  | 10 => ("UncutTale", "odds", "LUncutTale$Odds;", true)
  | 11 => ("UncutTale", "guess", "LUncutTale$Guess;", true)
  | 12 => ("UncutTale", "nowIsStale", "Z", false)
  | 13 => ("UncutTale", "oddsAreStale", "Z", false)
  | _ => ("UncutTale", "plannedYears", "I", false)
def tyX8 : Nat → FieldType := fun k => match k with
  | 0 => .object "UncutTale$Tape"
  | 1 => .object "UncutTale$Story"
  | 2 => .object "UncutTale$Parser"
  | 3 => .object "UncutTale$Story"
  | 4 => .array (.object "UncutTale$Story")
  | 5 => .array .boolean
  | 6 => .object "UncutTale$Slots"
  | 7 => .object "UncutTale$Course"
  | 8 => .object "UncutTale$Course"
  | 9 => .object "UncutTale$Planner"
  | 10 => .object "UncutTale$Odds"
  | 11 => .object "UncutTale$Guess"
  | 12 => .boolean
  | 13 => .boolean
  | _ => .int
abbrev wsX80 : List Cond := u_ws RX8 TX8 15
theorem nmX8 : ∀ a, a < 15 → ∀ b, b < 15 → a ≠ b → (TX8 a).2.1 ≠ (TX8 b).2.1 := by decide +kernel
theorem tyX8_ok : ∀ k, k < 15 → parseFieldDescriptor (TX8 k).2.2.1 = some (tyX8 k) := by decide +kernel
abbrev cX8_init : ByteArray := prog_1_method_1_code
def yX8_init : MethodName := ⟨RX8, "<init>", "()V"⟩
abbrev cX8_feed : ByteArray := prog_1_method_2_code
def yX8_feed : MethodName := ⟨RX8, "feed", "(IIIII)I"⟩
abbrev cX8_end : ByteArray := prog_1_method_3_code
def yX8_end : MethodName := ⟨RX8, "end", "(I)I"⟩
abbrev cX8_tale : ByteArray := prog_1_method_4_code
def yX8_tale : MethodName := ⟨RX8, "tale", "()I"⟩
abbrev cX8_fault : ByteArray := prog_1_method_5_code
def yX8_fault : MethodName := ⟨RX8, "fault", "(I)I"⟩
abbrev cX8_part : ByteArray := prog_1_method_6_code
def yX8_part : MethodName := ⟨RX8, "part", "(II)I"⟩
abbrev cX8_near : ByteArray := prog_1_method_7_code
def yX8_near : MethodName := ⟨RX8, "near", "(I)I"⟩
abbrev cX8_far : ByteArray := prog_1_method_8_code
def yX8_far : MethodName := ⟨RX8, "far", "(II)I"⟩
abbrev cX8_pieces : ByteArray := prog_1_method_9_code
def yX8_pieces : MethodName := ⟨RX8, "pieces", "()I"⟩
abbrev cX8_knives : ByteArray := prog_1_method_10_code
def yX8_knives : MethodName := ⟨RX8, "knives", "(I)I"⟩
abbrev cX8_count : ByteArray := prog_1_method_11_code
def yX8_count : MethodName := ⟨RX8, "count", "(I)I"⟩
abbrev cX8_stiff : ByteArray := prog_1_method_12_code
def yX8_stiff : MethodName := ⟨RX8, "stiff", "(II)I"⟩
abbrev cX8_open : ByteArray := prog_1_method_13_code
def yX8_open : MethodName := ⟨RX8, "open", "(I)I"⟩
abbrev cX8_when : ByteArray := prog_1_method_14_code
def yX8_when : MethodName := ⟨RX8, "when", "(I)I"⟩
abbrev cX8_how : ByteArray := prog_1_method_15_code
def yX8_how : MethodName := ⟨RX8, "how", "(I)I"⟩
abbrev cX8_read : ByteArray := prog_1_method_16_code
def yX8_read : MethodName := ⟨RX8, "read", "(I)I"⟩
abbrev cX8_reads : ByteArray := prog_1_method_17_code
def yX8_reads : MethodName := ⟨RX8, "reads", "(I)I"⟩
abbrev cX8_all : ByteArray := prog_1_method_18_code
def yX8_all : MethodName := ⟨RX8, "all", "()I"⟩
abbrev cX8_keeps : ByteArray := prog_1_method_19_code
def yX8_keeps : MethodName := ⟨RX8, "keeps", "(II)I"⟩
abbrev cX8_waits : ByteArray := prog_1_method_20_code
def yX8_waits : MethodName := ⟨RX8, "waits", "(I)I"⟩
abbrev cX8_next : ByteArray := prog_1_method_21_code
def yX8_next : MethodName := ⟨RX8, "next", "(I)I"⟩
abbrev cX8_dull : ByteArray := prog_1_method_22_code
def yX8_dull : MethodName := ⟨RX8, "dull", "(I)I"⟩
abbrev cX8_dies : ByteArray := prog_1_method_23_code
def yX8_dies : MethodName := ⟨RX8, "dies", "(I)I"⟩
abbrev cX8_ages : ByteArray := prog_1_method_24_code
def yX8_ages : MethodName := ⟨RX8, "ages", "(I)I"⟩
abbrev cX8_best : ByteArray := prog_1_method_25_code
def yX8_best : MethodName := ⟨RX8, "best", "(I)I"⟩
abbrev cX8_lone : ByteArray := prog_1_method_26_code
def yX8_lone : MethodName := ⟨RX8, "lone", "(I)I"⟩
abbrev cX8_stalest : ByteArray := prog_1_method_27_code
def yX8_stalest : MethodName := ⟨RX8, "stalest", "(I)I"⟩
abbrev cX8_cut : ByteArray := prog_1_method_28_code
def yX8_cut : MethodName := ⟨RX8, "cut", "(I)I"⟩
abbrev cX8_sharp : ByteArray := prog_1_method_29_code
def yX8_sharp : MethodName := ⟨RX8, "sharp", "()I"⟩
abbrev cX8_idle : ByteArray := prog_1_method_30_code
def yX8_idle : MethodName := ⟨RX8, "idle", "()I"⟩
abbrev cX8_uncut : ByteArray := prog_1_method_31_code
def yX8_uncut : MethodName := ⟨RX8, "uncut", "()I"⟩
abbrev cX8_done : ByteArray := prog_1_method_32_code
def yX8_done : MethodName := ⟨RX8, "done", "()I"⟩
abbrev cX8_rush : ByteArray := prog_1_method_33_code
def yX8_rush : MethodName := ⟨RX8, "rush", "()I"⟩
abbrev cX8_with : ByteArray := prog_1_method_34_code
def yX8_with : MethodName := ⟨RX8, "with", "(I)I"⟩
abbrev cX8_charms : ByteArray := prog_1_method_35_code
def yX8_charms : MethodName := ⟨RX8, "charms", "()I"⟩
abbrev cX8_peak : ByteArray := prog_1_method_36_code
def yX8_peak : MethodName := ⟨RX8, "peak", "()I"⟩
abbrev cX8_first : ByteArray := prog_1_method_37_code
def yX8_first : MethodName := ⟨RX8, "first", "()I"⟩
abbrev cX8_quiet : ByteArray := prog_1_method_38_code
def yX8_quiet : MethodName := ⟨RX8, "quiet", "()I"⟩
abbrev cX8_lost : ByteArray := prog_1_method_39_code
def yX8_lost : MethodName := ⟨RX8, "lost", "()I"⟩
abbrev cX8_few : ByteArray := prog_1_method_40_code
def yX8_few : MethodName := ⟨RX8, "few", "()I"⟩
abbrev cX8_fews : ByteArray := prog_1_method_41_code
def yX8_fews : MethodName := ⟨RX8, "fews", "()I"⟩
abbrev cX8_worth : ByteArray := prog_1_method_42_code
def yX8_worth : MethodName := ⟨RX8, "worth", "(I)I"⟩
abbrev cX8_share : ByteArray := prog_1_method_43_code
def yX8_share : MethodName := ⟨RX8, "share", "(II)I"⟩
abbrev cX8_plan : ByteArray := prog_1_method_44_code
def yX8_plan : MethodName := ⟨RX8, "plan", "(I)I"⟩
abbrev cX8_planned : ByteArray := prog_1_method_45_code
def yX8_planned : MethodName := ⟨RX8, "planned", "(II)I"⟩
abbrev cX8_plans : ByteArray := prog_1_method_46_code
def yX8_plans : MethodName := ⟨RX8, "plans", "(I)I"⟩
abbrev cX8_stiffs : ByteArray := prog_1_method_47_code
def yX8_stiffs : MethodName := ⟨RX8, "stiffs", "(II)I"⟩
abbrev cX8_low : ByteArray := prog_1_method_48_code
def yX8_low : MethodName := ⟨RX8, "low", "(II)I"⟩
abbrev cX8_high : ByteArray := prog_1_method_49_code
def yX8_high : MethodName := ⟨RX8, "high", "(II)I"⟩
abbrev cX8_ask : ByteArray := prog_1_method_50_code
def yX8_ask : MethodName := ⟨RX8, "ask", "(II)I"⟩
abbrev cX8_leaves : ByteArray := prog_1_method_51_code
def yX8_leaves : MethodName := ⟨RX8, "leaves", "(II)I"⟩
abbrev cX8_laws : ByteArray := prog_1_method_52_code
def yX8_laws : MethodName := ⟨RX8, "laws", "(I)I"⟩
abbrev cX8_by : ByteArray := prog_1_method_53_code
def yX8_by : MethodName := ⟨RX8, "by", "(I)I"⟩
abbrev cX8_law : ByteArray := prog_1_method_54_code
def yX8_law : MethodName := ⟨RX8, "law", "()I"⟩
abbrev cX8_blunt : ByteArray := prog_1_method_55_code
def yX8_blunt : MethodName := ⟨RX8, "blunt", "()I"⟩
abbrev cX8_slit : ByteArray := prog_1_method_56_code
def yX8_slit : MethodName := ⟨RX8, "slit", "()I"⟩
abbrev cX8_uncle : ByteArray := prog_1_method_57_code
def yX8_uncle : MethodName := ⟨RX8, "uncle", "()I"⟩
abbrev cX8_opens : ByteArray := prog_1_method_58_code
def yX8_opens : MethodName := ⟨RX8, "opens", "()I"⟩
abbrev cX8_replies : ByteArray := prog_1_method_59_code
def yX8_replies : MethodName := ⟨RX8, "replies", "(I)I"⟩
abbrev cX8_rests : ByteArray := prog_1_method_60_code
def yX8_rests : MethodName := ⟨RX8, "rests", "(II)I"⟩
abbrev cX8_gets : ByteArray := prog_1_method_61_code
def yX8_gets : MethodName := ⟨RX8, "gets", "(IIII)I"⟩
abbrev cX8_chance : ByteArray := prog_1_method_62_code
def yX8_chance : MethodName := ⟨RX8, "chance", "(II)I"⟩
abbrev cX8_mean : ByteArray := prog_1_method_63_code
def yX8_mean : MethodName := ⟨RX8, "mean", "(I)J"⟩
abbrev cX8_drawn : ByteArray := prog_1_method_64_code
def yX8_drawn : MethodName := ⟨RX8, "drawn", "(II)I"⟩
abbrev cX8_luck : ByteArray := prog_1_method_65_code
def yX8_luck : MethodName := ⟨RX8, "luck", "(III)I"⟩
abbrev cX8_knife : ByteArray := prog_1_method_66_code
def yX8_knife : MethodName := ⟨RX8, "knife", "(II)I"⟩
abbrev cX8_air : ByteArray := prog_1_method_67_code
def yX8_air : MethodName := ⟨RX8, "air", "(II)I"⟩
abbrev cX8_undo : ByteArray := prog_1_method_68_code
def yX8_undo : MethodName := ⟨RX8, "undo", "()I"⟩
abbrev cX8_anew : ByteArray := prog_1_method_69_code
def yX8_anew : MethodName := ⟨RX8, "anew", "()I"⟩
abbrev cX8_rate : ByteArray := prog_1_method_70_code
def yX8_rate : MethodName := ⟨RX8, "rate", "(II)I"⟩
abbrev cX8_image : ByteArray := prog_1_method_71_code
def yX8_image : MethodName := ⟨RX8, "image", "(I)I"⟩
abbrev cX8_back : ByteArray := prog_1_method_72_code
def yX8_back : MethodName := ⟨RX8, "back", "(I)I"⟩
abbrev cX8_row : ByteArray := prog_1_method_73_code
def yX8_row : MethodName := ⟨RX8, "row", "(III)I"⟩
abbrev cX8_write : ByteArray := prog_1_method_74_code
def yX8_write : MethodName := ⟨RX8, "write", "(IIJ)I"⟩
abbrev cX8_paste : ByteArray := prog_1_method_75_code
def yX8_paste : MethodName := ⟨RX8, "paste", "(IIIII)I"⟩
abbrev cX8_hasBit : ByteArray := prog_1_method_76_code
def yX8_hasBit : MethodName := ⟨RX8, "hasBit", "(II)Z"⟩
abbrev cX8_isAboveOrBelow : ByteArray := prog_1_method_77_code
def yX8_isAboveOrBelow : MethodName := ⟨RX8, "isAboveOrBelow", "(I)Z"⟩
abbrev cX8_isChoice : ByteArray := prog_1_method_78_code
def yX8_isChoice : MethodName := ⟨RX8, "isChoice", "(I)Z"⟩
abbrev cX8_isSeed : ByteArray := prog_1_method_79_code
def yX8_isSeed : MethodName := ⟨RX8, "isSeed", "(I)Z"⟩
abbrev cX8_factorial : ByteArray := prog_1_method_80_code
def yX8_factorial : MethodName := ⟨RX8, "factorial", "(I)I"⟩
abbrev cX8_lowestTerms : ByteArray := prog_1_method_81_code
def yX8_lowestTerms : MethodName := ⟨RX8, "lowestTerms", "(JJI)J"⟩
abbrev cX8_greatestDivisor : ByteArray := prog_1_method_82_code
def yX8_greatestDivisor : MethodName := ⟨RX8, "greatestDivisor", "(JJ)J"⟩
abbrev cX8_forgetAnswers : ByteArray := prog_1_method_83_code
def yX8_forgetAnswers : MethodName := ⟨RX8, "forgetAnswers", "()V"⟩
abbrev cX8_current : ByteArray := prog_1_method_84_code
def yX8_current : MethodName := ⟨RX8, "current", "()LUncutTale$Course;"⟩
abbrev cX8_asNow : ByteArray := prog_1_method_85_code
def yX8_asNow : MethodName := ⟨RX8, "asNow", "(I)V"⟩
abbrev cX8_hasPartAndYear : ByteArray := prog_1_method_86_code
def yX8_hasPartAndYear : MethodName := ⟨RX8, "hasPartAndYear", "(II)Z"⟩
abbrev cX8_isPair : ByteArray := prog_1_method_87_code
def yX8_isPair : MethodName := ⟨RX8, "isPair", "(II)Z"⟩
abbrev cX8_shutAtLast : ByteArray := prog_1_method_88_code
def yX8_shutAtLast : MethodName := ⟨RX8, "shutAtLast", "()I"⟩
abbrev cX8_openedIn : ByteArray := prog_1_method_89_code
def yX8_openedIn : MethodName := ⟨RX8, "openedIn", "(I)I"⟩
abbrev cX8_openingKnives : ByteArray := prog_1_method_90_code
def yX8_openingKnives : MethodName := ⟨RX8, "openingKnives", "()I"⟩
abbrev cX8_opensAnew : ByteArray := prog_1_method_91_code
def yX8_opensAnew : MethodName := ⟨RX8, "opensAnew", "(III)Z"⟩
abbrev cX8_fewest : ByteArray := prog_1_method_92_code
def yX8_fewest : MethodName := ⟨RX8, "fewest", "()I"⟩
abbrev cX8_setWorth : ByteArray := prog_1_method_93_code
def yX8_setWorth : MethodName := ⟨RX8, "setWorth", "(I)I"⟩
abbrev cX8_hasPlan : ByteArray := prog_1_method_94_code
def yX8_hasPlan : MethodName := ⟨RX8, "hasPlan", "(I)Z"⟩
abbrev cX8_planFor : ByteArray := prog_1_method_95_code
def yX8_planFor : MethodName := ⟨RX8, "planFor", "(I)V"⟩
abbrev cX8_refuseSeenOf : ByteArray := prog_1_method_96_code
def yX8_refuseSeenOf : MethodName := ⟨RX8, "refuseSeenOf", "(II)I"⟩
abbrev cX8_refuseSeen : ByteArray := prog_1_method_97_code
def yX8_refuseSeen : MethodName := ⟨RX8, "refuseSeen", "(I)I"⟩
abbrev cX8_refuseAct : ByteArray := prog_1_method_98_code
def yX8_refuseAct : MethodName := ⟨RX8, "refuseAct", "(II)I"⟩
abbrev cX8_readByLaw : ByteArray := prog_1_method_99_code
def yX8_readByLaw : MethodName := ⟨RX8, "readByLaw", "(I)I"⟩
abbrev cX8_uncleWorth : ByteArray := prog_1_method_100_code
def yX8_uncleWorth : MethodName := ⟨RX8, "uncleWorth", "(I)I"⟩
abbrev cX8_earChoice : ByteArray := prog_1_method_101_code
def yX8_earChoice : MethodName := ⟨RX8, "earChoice", "(I)I"⟩
abbrev cX8_sewnGets : ByteArray := prog_1_method_102_code
def yX8_sewnGets : MethodName := ⟨RX8, "sewnGets", "(IIII)I"⟩
abbrev cX8_weighOdds : ByteArray := prog_1_method_103_code
def yX8_weighOdds : MethodName := ⟨RX8, "weighOdds", "()V"⟩
abbrev cX8_knivesDrawn : ByteArray := prog_1_method_104_code
def yX8_knivesDrawn : MethodName := ⟨RX8, "knivesDrawn", "(J)I"⟩
def RX9 : String := "UncutTaleModel"
def TX9 : u_T := fun k => match k with
  | 0 => ("UncutTaleModel", "thrown", "I", false)
  | 1 => ("UncutTaleModel", "width", "[I", true)
  | 2 => ("UncutTaleModel", "many", "[I", true)
  | 3 => ("UncutTaleModel", "cells", "[J", true)
  | 4 => ("UncutTaleModel", "moved", "[J", true)
  | 5 => ("UncutTaleModel", "tape", "[B", true)
  | 6 => ("UncutTaleModel", "taped", "I", false)
  | 7 => ("UncutTaleModel", "spot", "I", false)
  | 8 => ("UncutTaleModel", "token", "I", false)
  | 9 => ("UncutTaleModel", "place", "I", false)
  | 10 => ("UncutTaleModel", "value", "I", false)
  | 11 => ("UncutTaleModel", "word", "J", false)
  | 12 => ("UncutTaleModel", "bad", "I", false)
  | 13 => ("UncutTaleModel", "badPlace", "I", false)
  | 14 => ("UncutTaleModel", "fault", "I", false)
  | 15 => ("UncutTaleModel", "faultPlace", "I", false)
  | 16 => ("UncutTaleModel", "lines", "[I", true)
  | 17 => ("UncutTaleModel", "has", "[I", true)
  | 18 => ("UncutTaleModel", "told", "[I", true)
  | 19 => ("UncutTaleModel", "fold", "[I", true)
  | 20 => ("UncutTaleModel", "blade", "[I", true)
  | 21 => ("UncutTaleModel", "act", "[I", true)
  | 22 => ("UncutTaleModel", "isKept", "[Z", true)
  | 23 => ("UncutTaleModel", "law", "I", false)
  | 24 => ("UncutTaleModel", "sewn", "I", false)
  | 25 => ("UncutTaleModel", "untold", "I", false)
  | 26 => ("UncutTaleModel", "notBlade", "I", false)
  | 27 => ("UncutTaleModel", "isPlanned", "Z", false)
  | 28 => ("UncutTaleModel", "stiffTold", "[I", true)
  | 29 => ("UncutTaleModel", "planSet", "[I", true)
  | 30 => ("UncutTaleModel", "stiffs0", "[I", true)
  | 31 => ("UncutTaleModel", "openAt", "[I", true)
  | 32 => ("UncutTaleModel", "openedIn", "[I", true)
  | 33 => ("UncutTaleModel", "howOpened", "[I", true)
  | 34 => ("UncutTaleModel", "readFor", "[I", true)
  | 35 => ("UncutTaleModel", "sharpBits", "I", false)
  | 36 => ("UncutTaleModel", "openNow", "I", false)
  | 37 => ("UncutTaleModel", "planMost", "I", false)
  | 38 => ("UncutTaleModel", "planMany", "I", false)
  | 39 => ("UncutTaleModel", "planRow", "[I", true)
  | 40 => ("UncutTaleModel", "planNow", "[I", true)
  | 41 => ("UncutTaleModel", "seenMany", "I", false)
  | 42 => ("UncutTaleModel", "seenLow", "I", false)
  | 43 => ("UncutTaleModel", "seenHigh", "I", false)
  | 44 => ("UncutTaleModel", "askBest", "I", false)
  | 45 => ("UncutTaleModel", "askLeaves", "I", false)
  | 46 => ("UncutTaleModel", "oftenAt", "[I", true)
  | 47 => ("UncutTaleModel", "earBest", "I", false)
  | 48 => ("UncutTaleModel", "earLeast", "I", false)
  | 49 => ("UncutTaleModel", "uncleBest", "I", false)
  | _ => ("UncutTaleModel", "uncleMost", "I", false)
def tyX9 : Nat → FieldType := fun k => match k with
  | 0 => .int
  | 1 => .array .int
  | 2 => .array .int
  | 3 => .array .long
  | 4 => .array .long
  | 5 => .array .byte
  | 6 => .int
  | 7 => .int
  | 8 => .int
  | 9 => .int
  | 10 => .int
  | 11 => .long
  | 12 => .int
  | 13 => .int
  | 14 => .int
  | 15 => .int
  | 16 => .array .int
  | 17 => .array .int
  | 18 => .array .int
  | 19 => .array .int
  | 20 => .array .int
  | 21 => .array .int
  | 22 => .array .boolean
  | 23 => .int
  | 24 => .int
  | 25 => .int
  | 26 => .int
  | 27 => .boolean
  | 28 => .array .int
  | 29 => .array .int
  | 30 => .array .int
  | 31 => .array .int
  | 32 => .array .int
  | 33 => .array .int
  | 34 => .array .int
  | 35 => .int
  | 36 => .int
  | 37 => .int
  | 38 => .int
  | 39 => .array .int
  | 40 => .array .int
  | 41 => .int
  | 42 => .int
  | 43 => .int
  | 44 => .int
  | 45 => .int
  | 46 => .array .int
  | 47 => .int
  | 48 => .int
  | 49 => .int
  | _ => .int
abbrev wsX90 : List Cond := u_ws RX9 TX9 51
theorem nmX9 : ∀ a, a < 51 → ∀ b, b < 51 → a ≠ b → (TX9 a).2.1 ≠ (TX9 b).2.1 := by decide +kernel
theorem tyX9_ok : ∀ k, k < 51 → parseFieldDescriptor (TX9 k).2.2.1 = some (tyX9 k) := by decide +kernel
abbrev cX9_init : ByteArray := prog_11_method_1_code
def yX9_init : MethodName := ⟨RX9, "<init>", "()V"⟩
abbrev cX9_in : ByteArray := prog_11_method_3_code
def yX9_in : MethodName := ⟨RX9, "in", "(JJJ)Z"⟩
abbrev cX9_isSlot : ByteArray := prog_11_method_4_code
def yX9_isSlot : MethodName := ⟨RX9, "isSlot", "(I)Z"⟩
abbrev cX9_row : ByteArray := prog_11_method_5_code
def yX9_row : MethodName := ⟨RX9, "row", "(III)I"⟩
abbrev cX9_cut : ByteArray := prog_11_method_6_code
def yX9_cut : MethodName := ⟨RX9, "cut", "(JI)J"⟩
abbrev cX9_write : ByteArray := prog_11_method_7_code
def yX9_write : MethodName := ⟨RX9, "write", "(IIJ)I"⟩
abbrev cX9_paste : ByteArray := prog_11_method_8_code
def yX9_paste : MethodName := ⟨RX9, "paste", "(IIIII)I"⟩
abbrev cX9_feed : ByteArray := prog_11_method_9_code
def yX9_feed : MethodName := ⟨RX9, "feed", "(IIIII)I"⟩
abbrev cX9_four : ByteArray := prog_11_method_10_code
def yX9_four : MethodName := ⟨RX9, "four", "(I)V"⟩
abbrev cX9_end : ByteArray := prog_11_method_11_code
def yX9_end : MethodName := ⟨RX9, "end", "(I)I"⟩
abbrev cX9_isByte : ByteArray := prog_11_method_12_code
def yX9_isByte : MethodName := ⟨RX9, "isByte", "(III)Z"⟩
abbrev cX9_follows : ByteArray := prog_11_method_13_code
def yX9_follows : MethodName := ⟨RX9, "follows", "()V"⟩
abbrev cX9_isGood : ByteArray := prog_11_method_14_code
def yX9_isGood : MethodName := ⟨RX9, "isGood", "()Z"⟩
abbrev cX9_fails : ByteArray := prog_11_method_15_code
def yX9_fails : MethodName := ⟨RX9, "fails", "(I)V"⟩
abbrev cX9_is : ByteArray := prog_11_method_16_code
def yX9_is : MethodName := ⟨RX9, "is", "(J)Z"⟩
abbrev cX9_takesWord : ByteArray := prog_11_method_17_code
def yX9_takesWord : MethodName := ⟨RX9, "takesWord", "(J)Z"⟩
abbrev cX9_asks : ByteArray := prog_11_method_18_code
def yX9_asks : MethodName := ⟨RX9, "asks", "(J)V"⟩
abbrev cX9_number : ByteArray := prog_11_method_19_code
def yX9_number : MethodName := ⟨RX9, "number", "(II)I"⟩
abbrev cX9_number_ : ByteArray := prog_11_method_20_code
def yX9_number_ : MethodName := ⟨RX9, "number", "(JII)I"⟩
abbrev cX9_ends : ByteArray := prog_11_method_21_code
def yX9_ends : MethodName := ⟨RX9, "ends", "()V"⟩
abbrev cX9_begins : ByteArray := prog_11_method_22_code
def yX9_begins : MethodName := ⟨RX9, "begins", "()V"⟩
abbrev cX9_isOver : ByteArray := prog_11_method_23_code
def yX9_isOver : MethodName := ⟨RX9, "isOver", "()V"⟩
abbrev cX9_fault : ByteArray := prog_11_method_24_code
def yX9_fault : MethodName := ⟨RX9, "fault", "(I)I"⟩
abbrev cX9_hasRead : ByteArray := prog_11_method_25_code
def yX9_hasRead : MethodName := ⟨RX9, "hasRead", "(I)I"⟩
abbrev cX9_tellsOf : ByteArray := prog_11_method_26_code
def yX9_tellsOf : MethodName := ⟨RX9, "tellsOf", "(II)V"⟩
abbrev cX9_partHere : ByteArray := prog_11_method_27_code
def yX9_partHere : MethodName := ⟨RX9, "partHere", "()I"⟩
abbrev cX9_partLine : ByteArray := prog_11_method_28_code
def yX9_partLine : MethodName := ⟨RX9, "partLine", "()V"⟩
abbrev cX9_areJoined : ByteArray := prog_11_method_29_code
def yX9_areJoined : MethodName := ⟨RX9, "areJoined", "(II)Z"⟩
abbrev cX9_foldLine : ByteArray := prog_11_method_30_code
def yX9_foldLine : MethodName := ⟨RX9, "foldLine", "()V"⟩
abbrev cX9_knifeLine : ByteArray := prog_11_method_31_code
def yX9_knifeLine : MethodName := ⟨RX9, "knifeLine", "()V"⟩
abbrev cX9_isRoom : ByteArray := prog_11_method_32_code
def yX9_isRoom : MethodName := ⟨RX9, "isRoom", "(ZII)Z"⟩
abbrev cX9_lineHere : ByteArray := prog_11_method_33_code
def yX9_lineHere : MethodName := ⟨RX9, "lineHere", "()V"⟩
abbrev cX9_clears : ByteArray := prog_11_method_34_code
def yX9_clears : MethodName := ⟨RX9, "clears", "()V"⟩
abbrev cX9_tale : ByteArray := prog_11_method_35_code
def yX9_tale : MethodName := ⟨RX9, "tale", "()I"⟩
abbrev cX9_copyRow : ByteArray := prog_11_method_36_code
def yX9_copyRow : MethodName := ⟨RX9, "copyRow", "([IIII)V"⟩
abbrev cX9_copyTale : ByteArray := prog_11_method_37_code
def yX9_copyTale : MethodName := ⟨RX9, "copyTale", "(II)V"⟩
abbrev cX9_isTale : ByteArray := prog_11_method_38_code
def yX9_isTale : MethodName := ⟨RX9, "isTale", "()Z"⟩
abbrev cX9_parts : ByteArray := prog_11_method_39_code
def yX9_parts : MethodName := ⟨RX9, "parts", "()I"⟩
abbrev cX9_years : ByteArray := prog_11_method_40_code
def yX9_years : MethodName := ⟨RX9, "years", "()I"⟩
abbrev cX9_isPart : ByteArray := prog_11_method_41_code
def yX9_isPart : MethodName := ⟨RX9, "isPart", "(J)Z"⟩
abbrev cX9_isYear : ByteArray := prog_11_method_42_code
def yX9_isYear : MethodName := ⟨RX9, "isYear", "(J)Z"⟩
abbrev cX9_isAhead : ByteArray := prog_11_method_43_code
def yX9_isAhead : MethodName := ⟨RX9, "isAhead", "(I)Z"⟩
abbrev cX9_isThen : ByteArray := prog_11_method_44_code
def yX9_isThen : MethodName := ⟨RX9, "isThen", "(II)Z"⟩
abbrev cX9_areTwo : ByteArray := prog_11_method_45_code
def yX9_areTwo : MethodName := ⟨RX9, "areTwo", "(II)Z"⟩
abbrev cX9_isHalf : ByteArray := prog_11_method_46_code
def yX9_isHalf : MethodName := ⟨RX9, "isHalf", "(I)Z"⟩
abbrev cX9_isBit : ByteArray := prog_11_method_47_code
def yX9_isBit : MethodName := ⟨RX9, "isBit", "(II)Z"⟩
abbrev cX9_sizeOf : ByteArray := prog_11_method_48_code
def yX9_sizeOf : MethodName := ⟨RX9, "sizeOf", "(I)I"⟩
abbrev cX9_lessOf : ByteArray := prog_11_method_49_code
def yX9_lessOf : MethodName := ⟨RX9, "lessOf", "(II)I"⟩
abbrev cX9_moreOf : ByteArray := prog_11_method_50_code
def yX9_moreOf : MethodName := ⟨RX9, "moreOf", "(II)I"⟩
abbrev cX9_every : ByteArray := prog_11_method_51_code
def yX9_every : MethodName := ⟨RX9, "every", "()I"⟩
abbrev cX9_lays : ByteArray := prog_11_method_52_code
def yX9_lays : MethodName := ⟨RX9, "lays", "()V"⟩
abbrev cX9_nearOf : ByteArray := prog_11_method_53_code
def yX9_nearOf : MethodName := ⟨RX9, "nearOf", "(I)I"⟩
abbrev cX9_stiffAt : ByteArray := prog_11_method_54_code
def yX9_stiffAt : MethodName := ⟨RX9, "stiffAt", "(II)I"⟩
abbrev cX9_opens0 : ByteArray := prog_11_method_55_code
def yX9_opens0 : MethodName := ⟨RX9, "opens0", "(III)V"⟩
abbrev cX9_cuts : ByteArray := prog_11_method_56_code
def yX9_cuts : MethodName := ⟨RX9, "cuts", "(III)V"⟩
abbrev cX9_opensOthers : ByteArray := prog_11_method_57_code
def yX9_opensOthers : MethodName := ⟨RX9, "opensOthers", "(I)V"⟩
abbrev cX9_stiffer : ByteArray := prog_11_method_58_code
def yX9_stiffer : MethodName := ⟨RX9, "stiffer", "(II)I"⟩
abbrev cX9_runs : ByteArray := prog_11_method_59_code
def yX9_runs : MethodName := ⟨RX9, "runs", "()V"⟩
abbrev cX9_airs : ByteArray := prog_11_method_60_code
def yX9_airs : MethodName := ⟨RX9, "airs", "(I)V"⟩
abbrev cX9_knivesOf : ByteArray := prog_11_method_61_code
def yX9_knivesOf : MethodName := ⟨RX9, "knivesOf", "(I)V"⟩
abbrev cX9_laysNow : ByteArray := prog_11_method_62_code
def yX9_laysNow : MethodName := ⟨RX9, "laysNow", "()V"⟩
abbrev cX9_readIn : ByteArray := prog_11_method_63_code
def yX9_readIn : MethodName := ⟨RX9, "readIn", "(I)I"⟩
abbrev cX9_readAll : ByteArray := prog_11_method_64_code
def yX9_readAll : MethodName := ⟨RX9, "readAll", "()I"⟩
abbrev cX9_keepsOf : ByteArray := prog_11_method_65_code
def yX9_keepsOf : MethodName := ⟨RX9, "keepsOf", "(II)I"⟩
abbrev cX9_part : ByteArray := prog_11_method_66_code
def yX9_part : MethodName := ⟨RX9, "part", "(II)I"⟩
abbrev cX9_near : ByteArray := prog_11_method_67_code
def yX9_near : MethodName := ⟨RX9, "near", "(I)I"⟩
abbrev cX9_far : ByteArray := prog_11_method_68_code
def yX9_far : MethodName := ⟨RX9, "far", "(II)I"⟩
abbrev cX9_stiff : ByteArray := prog_11_method_69_code
def yX9_stiff : MethodName := ⟨RX9, "stiff", "(II)I"⟩
abbrev cX9_open : ByteArray := prog_11_method_70_code
def yX9_open : MethodName := ⟨RX9, "open", "(I)I"⟩
abbrev cX9_when : ByteArray := prog_11_method_71_code
def yX9_when : MethodName := ⟨RX9, "when", "(I)I"⟩
abbrev cX9_how : ByteArray := prog_11_method_72_code
def yX9_how : MethodName := ⟨RX9, "how", "(I)I"⟩
abbrev cX9_read : ByteArray := prog_11_method_73_code
def yX9_read : MethodName := ⟨RX9, "read", "(I)I"⟩
abbrev cX9_reads : ByteArray := prog_11_method_74_code
def yX9_reads : MethodName := ⟨RX9, "reads", "(I)I"⟩
abbrev cX9_all : ByteArray := prog_11_method_75_code
def yX9_all : MethodName := ⟨RX9, "all", "()I"⟩
abbrev cX9_keeps : ByteArray := prog_11_method_76_code
def yX9_keeps : MethodName := ⟨RX9, "keeps", "(II)I"⟩
abbrev cX9_waits : ByteArray := prog_11_method_77_code
def yX9_waits : MethodName := ⟨RX9, "waits", "(I)I"⟩
abbrev cX9_next : ByteArray := prog_11_method_78_code
def yX9_next : MethodName := ⟨RX9, "next", "(I)I"⟩
abbrev cX9_dull : ByteArray := prog_11_method_79_code
def yX9_dull : MethodName := ⟨RX9, "dull", "(I)I"⟩
abbrev cX9_dies : ByteArray := prog_11_method_80_code
def yX9_dies : MethodName := ⟨RX9, "dies", "(I)I"⟩
abbrev cX9_ages : ByteArray := prog_11_method_81_code
def yX9_ages : MethodName := ⟨RX9, "ages", "(I)I"⟩
abbrev cX9_cut_ : ByteArray := prog_11_method_82_code
def yX9_cut_ : MethodName := ⟨RX9, "cut", "(I)I"⟩
abbrev cX9_sharp : ByteArray := prog_11_method_83_code
def yX9_sharp : MethodName := ⟨RX9, "sharp", "()I"⟩
abbrev cX9_uncut : ByteArray := prog_11_method_84_code
def yX9_uncut : MethodName := ⟨RX9, "uncut", "()I"⟩
abbrev cX9_done : ByteArray := prog_11_method_85_code
def yX9_done : MethodName := ⟨RX9, "done", "()I"⟩
abbrev cX9_freshIn : ByteArray := prog_11_method_86_code
def yX9_freshIn : MethodName := ⟨RX9, "freshIn", "(I)I"⟩
abbrev cX9_rush : ByteArray := prog_11_method_87_code
def yX9_rush : MethodName := ⟨RX9, "rush", "()I"⟩
abbrev cX9_with : ByteArray := prog_11_method_88_code
def yX9_with : MethodName := ⟨RX9, "with", "(I)I"⟩
abbrev cX9_charms : ByteArray := prog_11_method_89_code
def yX9_charms : MethodName := ⟨RX9, "charms", "()I"⟩
abbrev cX9_best : ByteArray := prog_11_method_90_code
def yX9_best : MethodName := ⟨RX9, "best", "(I)I"⟩
abbrev cX9_peak : ByteArray := prog_11_method_91_code
def yX9_peak : MethodName := ⟨RX9, "peak", "()I"⟩
abbrev cX9_first : ByteArray := prog_11_method_92_code
def yX9_first : MethodName := ⟨RX9, "first", "()I"⟩
abbrev cX9_quiet : ByteArray := prog_11_method_93_code
def yX9_quiet : MethodName := ⟨RX9, "quiet", "()I"⟩
abbrev cX9_lone : ByteArray := prog_11_method_94_code
def yX9_lone : MethodName := ⟨RX9, "lone", "(I)I"⟩
abbrev cX9_stalest : ByteArray := prog_11_method_95_code
def yX9_stalest : MethodName := ⟨RX9, "stalest", "(I)I"⟩
abbrev cX9_pieces : ByteArray := prog_11_method_96_code
def yX9_pieces : MethodName := ⟨RX9, "pieces", "()I"⟩
abbrev cX9_lost : ByteArray := prog_11_method_97_code
def yX9_lost : MethodName := ⟨RX9, "lost", "()I"⟩
abbrev cX9_knives : ByteArray := prog_11_method_98_code
def yX9_knives : MethodName := ⟨RX9, "knives", "(I)I"⟩
abbrev cX9_idle : ByteArray := prog_11_method_99_code
def yX9_idle : MethodName := ⟨RX9, "idle", "()I"⟩
abbrev cX9_worthOf : ByteArray := prog_11_method_100_code
def yX9_worthOf : MethodName := ⟨RX9, "worthOf", "(I)I"⟩
abbrev cX9_fewOf : ByteArray := prog_11_method_101_code
def yX9_fewOf : MethodName := ⟨RX9, "fewOf", "()I"⟩
abbrev cX9_few : ByteArray := prog_11_method_102_code
def yX9_few : MethodName := ⟨RX9, "few", "()I"⟩
abbrev cX9_fews : ByteArray := prog_11_method_103_code
def yX9_fews : MethodName := ⟨RX9, "fews", "()I"⟩
abbrev cX9_worth : ByteArray := prog_11_method_104_code
def yX9_worth : MethodName := ⟨RX9, "worth", "(I)I"⟩
abbrev cX9_times : ByteArray := prog_11_method_105_code
def yX9_times : MethodName := ⟨RX9, "times", "(I)I"⟩
abbrev cX9_common : ByteArray := prog_11_method_106_code
def yX9_common : MethodName := ⟨RX9, "common", "(JJ)J"⟩
abbrev cX9_part0 : ByteArray := prog_11_method_107_code
def yX9_part0 : MethodName := ⟨RX9, "part0", "(JJI)J"⟩
abbrev cX9_share : ByteArray := prog_11_method_108_code
def yX9_share : MethodName := ⟨RX9, "share", "(II)I"⟩
abbrev cX9_runsPlan : ByteArray := prog_11_method_109_code
def yX9_runsPlan : MethodName := ⟨RX9, "runsPlan", "(I)V"⟩
abbrev cX9_planFrom : ByteArray := prog_11_method_110_code
def yX9_planFrom : MethodName := ⟨RX9, "planFrom", "(II)V"⟩
abbrev cX9_laysPlan : ByteArray := prog_11_method_111_code
def yX9_laysPlan : MethodName := ⟨RX9, "laysPlan", "(I)V"⟩
abbrev cX9_isPlan : ByteArray := prog_11_method_112_code
def yX9_isPlan : MethodName := ⟨RX9, "isPlan", "(I)Z"⟩
abbrev cX9_plan : ByteArray := prog_11_method_113_code
def yX9_plan : MethodName := ⟨RX9, "plan", "(I)I"⟩
abbrev cX9_planned : ByteArray := prog_11_method_114_code
def yX9_planned : MethodName := ⟨RX9, "planned", "(II)I"⟩
abbrev cX9_plans : ByteArray := prog_11_method_115_code
def yX9_plans : MethodName := ⟨RX9, "plans", "(I)I"⟩
abbrev cX9_whyNot : ByteArray := prog_11_method_116_code
def yX9_whyNot : MethodName := ⟨RX9, "whyNot", "(IZ)I"⟩
abbrev cX9_isSo : ByteArray := prog_11_method_117_code
def yX9_isSo : MethodName := ⟨RX9, "isSo", "(I)Z"⟩
abbrev cX9_laysSeen : ByteArray := prog_11_method_118_code
def yX9_laysSeen : MethodName := ⟨RX9, "laysSeen", "(II)V"⟩
abbrev cX9_stiffs : ByteArray := prog_11_method_119_code
def yX9_stiffs : MethodName := ⟨RX9, "stiffs", "(II)I"⟩
abbrev cX9_low : ByteArray := prog_11_method_120_code
def yX9_low : MethodName := ⟨RX9, "low", "(II)I"⟩
abbrev cX9_high : ByteArray := prog_11_method_121_code
def yX9_high : MethodName := ⟨RX9, "high", "(II)I"⟩
abbrev cX9_ask : ByteArray := prog_11_method_122_code
def yX9_ask : MethodName := ⟨RX9, "ask", "(II)I"⟩
abbrev cX9_leaves : ByteArray := prog_11_method_123_code
def yX9_leaves : MethodName := ⟨RX9, "leaves", "(II)I"⟩
abbrev cX9_allBy : ByteArray := prog_11_method_124_code
def yX9_allBy : MethodName := ⟨RX9, "allBy", "(I)I"⟩
abbrev cX9_laws : ByteArray := prog_11_method_125_code
def yX9_laws : MethodName := ⟨RX9, "laws", "(I)I"⟩
abbrev cX9_by : ByteArray := prog_11_method_126_code
def yX9_by : MethodName := ⟨RX9, "by", "(I)I"⟩
abbrev cX9_law : ByteArray := prog_11_method_127_code
def yX9_law : MethodName := ⟨RX9, "law", "()I"⟩
abbrev cX9_blunt : ByteArray := prog_11_method_128_code
def yX9_blunt : MethodName := ⟨RX9, "blunt", "()I"⟩
abbrev cX9_slit : ByteArray := prog_11_method_129_code
def yX9_slit : MethodName := ⟨RX9, "slit", "()I"⟩
abbrev cX9_laysEar : ByteArray := prog_11_method_130_code
def yX9_laysEar : MethodName := ⟨RX9, "laysEar", "(I)V"⟩
abbrev cX9_laysUncle : ByteArray := prog_11_method_131_code
def yX9_laysUncle : MethodName := ⟨RX9, "laysUncle", "()V"⟩
abbrev cX9_uncle : ByteArray := prog_11_method_132_code
def yX9_uncle : MethodName := ⟨RX9, "uncle", "()I"⟩
abbrev cX9_opens : ByteArray := prog_11_method_133_code
def yX9_opens : MethodName := ⟨RX9, "opens", "()I"⟩
abbrev cX9_replies : ByteArray := prog_11_method_134_code
def yX9_replies : MethodName := ⟨RX9, "replies", "(I)I"⟩
abbrev cX9_getsBy : ByteArray := prog_11_method_135_code
def yX9_getsBy : MethodName := ⟨RX9, "getsBy", "(IIIII)I"⟩
abbrev cX9_rests : ByteArray := prog_11_method_136_code
def yX9_rests : MethodName := ⟨RX9, "rests", "(II)I"⟩
abbrev cX9_gets : ByteArray := prog_11_method_137_code
def yX9_gets : MethodName := ⟨RX9, "gets", "(IIII)I"⟩
abbrev cX9_power : ByteArray := prog_11_method_138_code
def yX9_power : MethodName := ⟨RX9, "power", "(JI)J"⟩
abbrev cX9_weightOf : ByteArray := prog_11_method_139_code
def yX9_weightOf : MethodName := ⟨RX9, "weightOf", "(I)J"⟩
abbrev cX9_chance : ByteArray := prog_11_method_140_code
def yX9_chance : MethodName := ⟨RX9, "chance", "(II)I"⟩
abbrev cX9_mean : ByteArray := prog_11_method_141_code
def yX9_mean : MethodName := ⟨RX9, "mean", "(I)J"⟩
abbrev cX9_draws : ByteArray := prog_11_method_142_code
def yX9_draws : MethodName := ⟨RX9, "draws", "(J)I"⟩
abbrev cX9_isSeed : ByteArray := prog_11_method_143_code
def yX9_isSeed : MethodName := ⟨RX9, "isSeed", "(I)Z"⟩
abbrev cX9_drawn : ByteArray := prog_11_method_144_code
def yX9_drawn : MethodName := ⟨RX9, "drawn", "(II)I"⟩
abbrev cX9_luck : ByteArray := prog_11_method_145_code
def yX9_luck : MethodName := ⟨RX9, "luck", "(III)I"⟩
abbrev cX9_does : ByteArray := prog_11_method_146_code
def yX9_does : MethodName := ⟨RX9, "does", "(III)V"⟩
abbrev cX9_knife : ByteArray := prog_11_method_147_code
def yX9_knife : MethodName := ⟨RX9, "knife", "(II)I"⟩
abbrev cX9_air : ByteArray := prog_11_method_148_code
def yX9_air : MethodName := ⟨RX9, "air", "(II)I"⟩
abbrev cX9_undo : ByteArray := prog_11_method_149_code
def yX9_undo : MethodName := ⟨RX9, "undo", "()I"⟩
abbrev cX9_anew : ByteArray := prog_11_method_150_code
def yX9_anew : MethodName := ⟨RX9, "anew", "()I"⟩
abbrev cX9_rate : ByteArray := prog_11_method_151_code
def yX9_rate : MethodName := ⟨RX9, "rate", "(II)I"⟩
abbrev cX9_count : ByteArray := prog_11_method_152_code
def yX9_count : MethodName := ⟨RX9, "count", "(I)I"⟩
abbrev cX9_image : ByteArray := prog_11_method_153_code
def yX9_image : MethodName := ⟨RX9, "image", "(I)I"⟩
abbrev cX9_back : ByteArray := prog_11_method_154_code
def yX9_back : MethodName := ⟨RX9, "back", "(I)I"⟩
def RJx145de : String := "java/io/Serializable"
def RJx9f9b0 : String := "java/lang/CharSequence"
def RJxb160c : String := "java/lang/Comparable"
def RJ6 : String := "java/lang/Integer"
abbrev cJ6_bitCount_0f7a4 : ByteArray := prog_12_method_49_code
def yJ6_bitCount_0f7a4 : MethodName := ⟨RJ6, "bitCount", "(I)I"⟩
def RJ9 : String := "java/lang/Math"
abbrev cJ9_abs_067f4 : ByteArray := prog_13_method_61_code
def yJ9_abs_067f4 : MethodName := ⟨RJ9, "abs", "(J)J"⟩
abbrev cJ9_max_7cf53 : ByteArray := prog_13_method_65_code
def yJ9_max_7cf53 : MethodName := ⟨RJ9, "max", "(II)I"⟩
abbrev cJ9_max_f86c9 : ByteArray := prog_13_method_66_code
def yJ9_max_f86c9 : MethodName := ⟨RJ9, "max", "(JJ)J"⟩
abbrev cJ9_min_7cf53 : ByteArray := prog_13_method_69_code
def yJ9_min_7cf53 : MethodName := ⟨RJ9, "min", "(II)I"⟩
def RJ0 : String := "java/lang/String"
abbrev cJ0_length_8abf5 : ByteArray := prog_14_method_54_code
def yJ0_length_8abf5 : MethodName := ⟨RJ0, "length", "()I"⟩
abbrev cJ0_charAt_5068e : ByteArray := prog_14_method_56_code
def yJ0_charAt_5068e : MethodName := ⟨RJ0, "charAt", "(I)C"⟩
abbrev cJ0_coder_7d493 : ByteArray := prog_14_method_152_code
def yJ0_coder_7d493 : MethodName := ⟨RJ0, "coder", "()B"⟩
abbrev cJ0_isLatin1_aae02 : ByteArray := prog_14_method_154_code
def yJ0_isLatin1_aae02 : MethodName := ⟨RJ0, "isLatin1", "()Z"⟩
abbrev cJ0_checkIndex_df160 : ByteArray := prog_14_method_155_code
def yJ0_checkIndex_df160 : MethodName := ⟨RJ0, "checkIndex", "(II)V"⟩
def RJ1 : String := "java/lang/StringLatin1"
abbrev cJ1_charAt_3b067 : ByteArray := prog_15_method_2_code
def yJ1_charAt_3b067 : MethodName := ⟨RJ1, "charAt", "([BI)C"⟩
def RJ2 : String := "java/lang/StringUTF16"
abbrev cJ2_getChar_3b067 : ByteArray := prog_16_method_5_code
def yJ2_getChar_3b067 : MethodName := ⟨RJ2, "getChar", "([BI)C"⟩
abbrev cJ2_length_9d52b : ByteArray := prog_16_method_6_code
def yJ2_length_9d52b : MethodName := ⟨RJ2, "length", "([B)I"⟩
abbrev cJ2_charAt_3b067 : ByteArray := prog_16_method_83_code
def yJ2_charAt_3b067 : MethodName := ⟨RJ2, "charAt", "([BI)C"⟩
abbrev cJ2_checkIndex_2214a : ByteArray := prog_16_method_91_code
def yJ2_checkIndex_2214a : MethodName := ⟨RJ2, "checkIndex", "(I[B)V"⟩
def RJ10 : String := "java/lang/System"
def RJxfd54e : String := "java/lang/constant/Constable"
def RJx3cf43 : String := "java/lang/constant/ConstantDesc"
def RJ7 : String := "java/util/Arrays"
abbrev cJ7_rangeCheck_23922 : ByteArray := prog_18_method_30_code
def yJ7_rangeCheck_23922 : MethodName := ⟨RJ7, "rangeCheck", "(III)V"⟩
abbrev cJ7_fill_d0a16 : ByteArray := prog_18_method_101_code
def yJ7_fill_d0a16 : MethodName := ⟨RJ7, "fill", "([JJ)V"⟩
abbrev cJ7_fill_bad5a : ByteArray := prog_18_method_102_code
def yJ7_fill_bad5a : MethodName := ⟨RJ7, "fill", "([JIIJ)V"⟩
abbrev cJ7_fill_53178 : ByteArray := prog_18_method_103_code
def yJ7_fill_53178 : MethodName := ⟨RJ7, "fill", "([II)V"⟩
def RJ3 : String := "jdk/internal/util/Preconditions"
abbrev cJ3_checkIndex_8e157 : ByteArray := prog_19_method_11_code
def yJ3_checkIndex_8e157 : MethodName := ⟨RJ3, "checkIndex", "(IILjava/util/function/BiFunction;)I"⟩
def RL : String := "UncutTaleLaw"
abbrev cL_law : ByteArray := code
def yL_law : MethodName := ⟨RL, "law", "([I)Z"⟩
abbrev vwCl : List vw_C := [(RX0, TX0, 10), (RX1, TX1, 6), (RX2, TX2, 5), (RX3, TX3, 8), (RX4, TX4, 9), (RX5, TX5, 3), (RX6, TX6, 18), (RX7, TX7, 2), (RX8, TX8, 15), (RX9, TX9, 51)]
def NC : Nat := 119
def tbl : List ((Nat × Nat × List Nat) ⊕ (Nat × List Nat)) := [
  .inr (8, [3, 5, 16, 17, 28, 62, 63, 67, 74, 81, 93, 95, 0, 0, 0]),
  .inr (7, [4, 0]),
  .inl (1, 700, []),
  .inr (6, [6, 7, 8, 9, 10, 11, 12, 13, 14, 15, 0, 0, 0, 0, 0, 0, 0, 0]),
  .inl (0, 6, []),
  .inl (0, 6, []),
  .inl (0, 6, []),
  .inl (0, 10, []),
  .inl (0, 10, []),
  .inl (0, 8, []),
  .inl (0, 8, []),
  .inl (0, 20, []),
  .inl (0, 20, []),
  .inl (0, 20, []),
  .inr (3, [3, 5, 0, 0, 0, 0, 0, 0]),
  .inr (6, [18, 19, 20, 21, 22, 23, 24, 25, 26, 27, 0, 0, 0, 0, 0, 0, 0, 0]),
  .inl (0, 6, []),
  .inl (0, 6, []),
  .inl (0, 6, []),
  .inl (0, 10, []),
  .inl (0, 10, []),
  .inl (0, 8, []),
  .inl (0, 8, []),
  .inl (0, 20, []),
  .inl (0, 20, []),
  .inl (0, 20, []),
  .inl (4, 3, [27, 38, 49]),
  .inr (6, [30, 31, 32, 33, 34, 35, 36, 37, 38, 39, 0, 0, 0, 0, 0, 0, 0, 0]),
  .inl (0, 6, []),
  .inl (0, 6, []),
  .inl (0, 6, []),
  .inl (0, 10, []),
  .inl (0, 10, []),
  .inl (0, 8, []),
  .inl (0, 8, []),
  .inl (0, 20, []),
  .inl (0, 20, []),
  .inl (0, 20, []),
  .inr (6, [41, 42, 43, 44, 45, 46, 47, 48, 49, 50, 0, 0, 0, 0, 0, 0, 0, 0]),
  .inl (0, 6, []),
  .inl (0, 6, []),
  .inl (0, 6, []),
  .inl (0, 10, []),
  .inl (0, 10, []),
  .inl (0, 8, []),
  .inl (0, 8, []),
  .inl (0, 20, []),
  .inl (0, 20, []),
  .inl (0, 20, []),
  .inr (6, [52, 53, 54, 55, 56, 57, 58, 59, 60, 61, 0, 0, 0, 0, 0, 0, 0, 0]),
  .inl (0, 6, []),
  .inl (0, 6, []),
  .inl (0, 6, []),
  .inl (0, 10, []),
  .inl (0, 10, []),
  .inl (0, 8, []),
  .inl (0, 8, []),
  .inl (0, 20, []),
  .inl (0, 20, []),
  .inl (0, 20, []),
  .inl (2, 3, []),
  .inr (5, [64, 65, 66]),
  .inl (0, 4, []),
  .inl (0, 4, []),
  .inl (3, 240, []),
  .inr (0, [17, 68, 69, 70, 71, 72, 73, 0, 0, 0]),
  .inl (0, 6, []),
  .inl (0, 72, []),
  .inl (0, 12, []),
  .inl (0, 13, []),
  .inl (0, 6, []),
  .inl (0, 13, []),
  .inr (0, [17, 75, 76, 77, 78, 79, 80, 0, 0, 0]),
  .inl (0, 6, []),
  .inl (0, 72, []),
  .inl (0, 12, []),
  .inl (0, 13, []),
  .inl (0, 6, []),
  .inl (0, 13, []),
  .inr (4, [17, 74, 82, 89, 90, 91, 92, 0, 0]),
  .inl (5, 6, [81, 82, 83, 84, 85, 86]),
  .inl (0, 6, []),
  .inl (0, 6, []),
  .inl (0, 6, []),
  .inl (0, 6, []),
  .inl (0, 6, []),
  .inl (0, 6, []),
  .inl (0, 6, []),
  .inl (0, 6, []),
  .inl (0, 5, []),
  .inl (0, 5, []),
  .inr (2, [17, 74, 94, 1, 1]),
  .inl (3, 6, []),
  .inr (1, [17, 63, 96, 97, 0, 0]),
  .inl (2, 61, []),
  .inl (0, 1300, []),
  .inr (9, [0, 99, 100, 101, 102, 103, 0, 0, 0, 0, 0, 1, 0, 0, 0, 0, 104, 105, 106, 107, 108, 109, 110, 0, 0, 0, 0, 0, 111, 112, 113, 114, 115, 116, 117, 0, 0, 0, 0, 118, 119, 0, 0, 0, 0, 0, 120, 0, 0, 0, 0]),
  .inl (0, 4, []),
  .inl (0, 4, []),
  .inl (3, 240, []),
  .inl (3, 60, []),
  .inl (1, 700, []),
  .inl (0, 5, []),
  .inl (0, 35, []),
  .inl (0, 90, []),
  .inl (0, 100, []),
  .inl (0, 80, []),
  .inl (0, 300, []),
  .inl (2, 3, []),
  .inl (0, 6, []),
  .inl (0, 12, []),
  .inl (0, 78, []),
  .inl (0, 13, []),
  .inl (0, 6, []),
  .inl (0, 6, []),
  .inl (0, 6, []),
  .inl (0, 5, []),
  .inl (0, 5, []),
  .inl (0, 1300, [])]
def lenS : List Nat := [4, 5, 3, 4, 4, 5, 5, 5, 4, 5, 2]
def bytS : List (List Int32) := [[116, 97, 108, 101], [121, 101, 97, 114, 115], [108, 97, 119], [111, 100, 100, 115], [112, 97, 114, 116], [99, 104, 97, 114, 109], [116, 105, 114, 101, 115], [115, 116, 105, 102, 102], [102, 111, 108, 100], [107, 110, 105, 102, 101], [97, 116]]
def strO : List (String × Nat × String) := [("UncutTale$Parser", 76, "tale"), ("UncutTale$Parser", 82, "years"), ("UncutTale$Parser", 90, "law"), ("UncutTale$Parser", 94, "odds"), ("UncutTale$Parser", 50, "part"), ("UncutTale$Parser", 101, "charm"), ("UncutTale$Parser", 103, "tires"), ("UncutTale$Parser", 105, "stiff"), ("UncutTale$Parser", 59, "fold"), ("UncutTale$Parser", 64, "knife"), ("UncutTale$Parser", 132, "at")]
def nesO : List (String × Nat) := [("UncutTale$Story", 77), ("UncutTale$Course", 72), ("UncutTale$Planner", 65), ("UncutTale$Odds", 66)]
def facL : List Int32 := [1, 1, 2, 6, 24, 120, 720]
