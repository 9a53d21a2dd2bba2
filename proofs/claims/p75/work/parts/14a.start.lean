def R_law : String := "UncutTaleLaw"
def lw_P (b : Addr) (xs : List Int32) (args : Array Value) (s : State) : Prop := args = #[.ref b] ∧ s.IntsAt b xs ∧ xs.length ≤ 3072 ∧ (Jvm.Cond.and given_1 narrow_1).before args s = true
def lw_Q (_ : Array Value) (s : State) (o : Outcome) (t : State) : Prop := o = .returned (some (.int 1)) ∧ Framed s o t [] 600000 7302250
def lw_Z (below : List Frame) (a : Array Value) (s : State) : State → Prop := fun t => ∃ o, t.status = .running ∧ Ended t below o ∧ lw_Q a s o t
/-- the law's own end, with 1 on the stack, nothing written that was there before, its room as the claim has it -/
theorem lw_ret {p : Program} {l : Launch} {e : Env} {s : State} {m : MethodId} {below : List Frame} {meth : Method} {c : Code} {b : Nat} (hx : p.tables.exec = Jvm.exec) (hb : c.code = code) (hr : meth.sig.returnType = ret) (hlocks : meth.locks = false) {pc : Nat} {H : Heap} {ls : Array Slot} (hdg : decode code pc = .ok (.ireturn, 1)) : W p l e room_1 s m #[Value.ref b] below meth c H [] 600000 7302250 (lw_Z below #[Value.ref b] s) (F0 m pc ls [.int 1]) := by
  intro T hT X
  obtain ⟨fs, hret, hrun, hended, hW, hframe⟩ := X.leave (v := some (.int 1)) (hlocks := hlocks) (fun h => by rw [hr] at h; cases h)
  have hmeth' : T.vm.method? m = some meth := X.method'
  refine ⟨T.setFrames fs, ?_, .returned (some (.int 1)), hrun, hended, rfl, ⟨_, rfl⟩, hW, hframe⟩
  jvm_step X.here [X.here.top, hx, hb, hdg, hmeth', hr, ret, narrow_b1]
  (try refine ⟨rfl, ?_⟩); (try refine ⟨rfl, ?_⟩)
  first | (intro acts; rw [hret _ acts rfl rfl rfl]) | rw [hret _ _ rfl rfl rfl]
  exact Steps.refl _
/-- what holds at the law's entry: the machine, the code, the tables' words (any of lw_tbl by 'hts w (by decide +kernel)'), the script of L ints xs at the cell b, what the Statement gives of the start (any of its parts by flat_of_before) -/
def lw_At (p : Program) (s : State) (m : MethodId) (meth : Method) (c : Code) (b L : Nat) (xs : Nat → Int32) : Prop :=
  p.tables.exec = Jvm.exec ∧ c.code = code ∧ meth.sig.returnType = ret ∧ c.maxLocals = 4 ∧ s.vm.findClass R_law = some m.cls ∧ (∀ w ∈ lw_tbl, w.before #[Value.ref b] s = true) ∧ va_X b L xs s s.heap ∧ b < s.heap.size ∧ meth.locks = false ∧ (Jvm.Cond.and given_1 narrow_1).before #[Value.ref b] s = true
def hh (q : Nat) (f : (Nat → Nat) × (Nat → Nat → Nat)) (q2 : Nat) (f2 : Nat → Nat) : Nat → Nat := fun j => ([q, (f.1 0), (f.2 0 0), (f.1 1), (f.2 1 0), (f.2 1 1), (f.2 1 2), (f.2 1 3), (f.2 1 4), (f.2 1 5), (f.2 1 6), (f.2 1 7), (f.2 1 8), (f.2 1 9), (f.1 2), (f.1 3), (f.2 3 0), (f.2 3 1), (f.2 3 2), (f.2 3 3), (f.2 3 4), (f.2 3 5), (f.2 3 6), (f.2 3 7), (f.2 3 8), (f.2 3 9), (f.1 4), (f.1 5), (f.2 5 0), (f.2 5 1), (f.2 5 2), (f.2 5 3), (f.2 5 4), (f.2 5 5), (f.2 5 6), (f.2 5 7), (f.2 5 8), (f.2 5 9), (f.1 6), (f.2 6 0), (f.2 6 1), (f.2 6 2), (f.2 6 3), (f.2 6 4), (f.2 6 5), (f.2 6 6), (f.2 6 7), (f.2 6 8), (f.2 6 9), (f.1 7), (f.2 7 0), (f.2 7 1), (f.2 7 2), (f.2 7 3), (f.2 7 4), (f.2 7 5), (f.2 7 6), (f.2 7 7), (f.2 7 8), (f.2 7 9), (f.1 8), (f.1 9), (f.2 9 0), (f.2 9 1), (f.2 9 2), (f.1 10), (f.2 10 0), (f.2 10 1), (f.2 10 2), (f.2 10 3), (f.2 10 4), (f.2 10 5), (f.1 11), (f.2 11 0), (f.2 11 1), (f.2 11 2), (f.2 11 3), (f.2 11 4), (f.2 11 5), (f.1 12), (f.2 12 0), (f.2 12 1), (f.2 12 2), (f.2 12 3), (f.2 12 4), (f.2 12 5), (f.2 12 6), (f.2 12 7), (f.2 12 8), (f.2 12 9), (f.2 12 10), (f.1 13), (f.2 13 0), (f.1 14), (f.2 14 0), (f.2 14 1), q2, (f2 0), (f2 1), (f2 2), (f2 3), (f2 4), (f2 5), (f2 6), (f2 7), (f2 8), (f2 9), (f2 10), (f2 11), (f2 12), (f2 13), (f2 14), (f2 15), (f2 16), (f2 17), (f2 18), (f2 19), (f2 20), (f2 21)] : List Nat).getD j 0
def i0 (j : Nat) : Nat → Int32 := match j with
  | 0 => fun k => match k with
    | 12 => 1
    | 13 => 1
    | _ => 0
  | 14 => fun k => match k with
    | 7 => -1
    | _ => 0
  | 62 => (upd (upd (upd (upd (fun _ => 0) (Int32.toNatClampNeg 0) (-1)) (Int32.toNatClampNeg 1) (-1)) (Int32.toNatClampNeg 2) (-1)) (Int32.toNatClampNeg 3) (-1))
  | 96 => fun k => match k with
    | 15 => -1
    | _ => 0
  | 97 => (upd (upd (upd (upd (fun _ => 0) (Int32.toNatClampNeg 0) (-1)) (Int32.toNatClampNeg 1) (-1)) (Int32.toNatClampNeg 2) (-1)) (Int32.toNatClampNeg 3) (-1))
  | _ => fun _ => 0
def g0 (_ : Nat) : Nat → Int64 := fun _ => 0
theorem cell_im (cz : Nat → ClassId) (q : Nat) (f : (Nat → Nat) × (Nat → Nat → Nat)) (q2 : Nat) (f2 : Nat → Nat) : vp_cell (cz 4) (3, .inr (.inr (.inr (.inr (va_up (va_up (va_up (fun _ => none) (Int32.toNatClampNeg 0) (some (f.1 5))) (Int32.toNatClampNeg 1) (some (f.1 6))) (Int32.toNatClampNeg 2) (some (f.1 7))))))) = vp_cell (cz 4) (3, .inr (.inr (.inr (.inr (fun z => if z < ([27, 38, 49] : List Nat).length then some (hh q f q2 f2 (([27, 38, 49] : List Nat).getD z 0)) else none))))) := by
  rw [vp_cell_q, vp_cell_q]
  refine arrV_congr _ (fun j hj => ?_)
  rcases (show j = 0 ∨ j = 1 ∨ j = 2 by omega) with rfl | rfl | rfl <;> rfl
theorem cell_pl (cz : Nat → ClassId) (q : Nat) (f : (Nat → Nat) × (Nat → Nat → Nat)) (q2 : Nat) (f2 : Nat → Nat) : vp_cell (cz 5) (6, .inr (.inr (.inr (.inr (fun z => if z < 6 then some (([f.2 12 1, f.2 12 2, f.2 12 3, f.2 12 4, f.2 12 5, f.2 12 6] : List Nat).getD z 0) else none))))) = vp_cell (cz 5) (6, .inr (.inr (.inr (.inr (fun z => if z < ([81, 82, 83, 84, 85, 86] : List Nat).length then some (hh q f q2 f2 (([81, 82, 83, 84, 85, 86] : List Nat).getD z 0)) else none))))) := by
  rw [vp_cell_q, vp_cell_q]
  refine arrV_congr _ (fun j hj => ?_)
  rcases (show j = 0 ∨ j = 1 ∨ j = 2 ∨ j = 3 ∨ j = 4 ∨ j = 5 by omega) with rfl | rfl | rfl | rfl | rfl | rfl <;> rfl
