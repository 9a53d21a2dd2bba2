/-! rows of numbers copied; the greatest common divisor, by recursion -/
section RowsC
variable {p : Program} {l : Launch} {e : Env} {R : Room} {s : State} {m : MethodId} {args : Array Value} {below : List Frame} {meth : Method} {c : Code} {H : Heap} {locs : List Loc} {cells slots : Nat} {Q : State → Prop} {cc : ByteArray} {nL : Nat} {own : String} {D : va_G} {cz : Nat → ClassId} {h : Nat → Nat} {i : Nat → Nat → Int32} {g : Nat → Nat → Int64} {pc : Nat} {ls : Array Slot} {rest : List Value}
theorem r_copyl (X : Cxt p s m c args cc nL own D cz) (hT : TH D h cz i g H) {H0 : Heap} (hS : va_S (hA h) H0 H locs) (hz : ls.size = nL) (j0 j1 : Nat) {n0 n1 : Nat} {rs0 rs1 : List Nat} (ht0 : tb j0 = .inl (3, n0, rs0)) (ht1 : tb j1 = .inl (3, n1, rs1)) (hj0 : j0 < NC) (hj1 : j1 < NC) {index : Nat} (ml : Cond.methodLink own index arraycopyName ∈ GW) (hnat : Cond.native arraycopyName ∈ GW) (hstat : Cond.static arraycopyName ∈ GW) (hini : Cond.initialized "java/lang/System" ∈ GW) {a0 b0 a1 b1 a2 b2 : Int} {sp dp n : Int32} (r0 : rg a0 b0 sp) (r1 : rg a1 b1 dp) (r2 : rg a2 b2 n) (hn : 0 ≤ a0 ∧ 0 ≤ a1 ∧ 0 ≤ a2) (h4 : sp.toInt + n.toInt ≤ (n0 : Int)) (h5 : dp.toInt + n.toInt ≤ (n1 : Int))
    (hframes : 1 ≤ R.frames) (hlocals : (rest.map fun v => v.category).sum + (nativeFrameWords "java/lang/System" "arraycopy" 5 + 11) ≤ R.locals) (hdg : decode cc pc = .ok (.invokestatic index, 3))
    (kk : ∀ (H1 : Heap) (locs1 : List Loc) (g1 : Nat → Nat → Int64), g1 = up5 g j1 (va_cpy (g j0) (g j1) sp.toNatClampNeg dp.toNatClampNeg n.toNatClampNeg) → TH D h cz i g1 H1 → va_S (hA h) H0 H1 locs1 → W p l e R s m args below meth c H1 locs1 cells slots Q (F0 m (pc + 3) ls rest)) : W p l e R s m args below meth c H locs cells slots Q (F0 m pc ls (.int n :: .int dp :: .ref (h j1) :: .int sp :: .ref (h j0) :: rest)) := by
  obtain ⟨hx, hb, hml, hown, hts, hK⟩ := X
  have e0 := cl_int r0 hn.1
  have e1 := cl_int r1 hn.2.1
  have e2 := cl_int r2 hn.2.2
  have nl : ∀ z : Int32, 0 ≤ z.toInt → ¬ z < 0 := fun z hz h => by have := Int32.lt_iff_toInt_lt.mp h; have h0 : (0 : Int32).toInt = 0 := rfl; omega
  refine va_copyl hx hb (hml.trans hz.symm) hown (hts _ ml) (hts _ hnat) (hts _ hstat) (hts _ hini) hK hT.1 (wH_D hT.2 cz i g) hS j0 j1 3 3 (c0 := cz 3) (c1 := cz 3) (n0 := n0) (n1 := n1) (f := g j0) (g := g j1) (ty := .long) (by rw [wH_get _ _ _ _ hj0, ht0]; rfl) (by rw [wH_get _ _ _ _ hj1, ht1]; rfl) rfl rfl rfl (nl _ (by have := r0.1; omega)) (nl _ (by have := r1.1; omega)) (nl _ (by have := r2.1; omega)) (by omega) (by omega) (fun _ _ => rfl) hframes hlocals hdg (fun H1 locs1 hP _ hS1 => kk H1 locs1 _ rfl ⟨?_, hT.2⟩ hS1)
  have e : (wH h cz i g).set j1 (h j1, .inl (cz 3, n1, .inr (.inl (va_cpy (g j0) (g j1) sp.toNatClampNeg dp.toNatClampNeg n.toNatClampNeg)))) = wH h cz i (up5 g j1 (va_cpy (g j0) (g j1) sp.toNatClampNeg dp.toNatClampNeg n.toNatClampNeg)) := by
    rw [← wH_set (i := i) (g := g) (j := j1) (fun _ _ => rfl) (fun q hq => up5_j hq), ht1, up5_s]
    rfl
  rw [e] at hP
  exact hP
end RowsC
theorem rem_ti (a b : Int64) : (a - a / b * b).toInt = a.toInt.tmod b.toInt := by
  have hb := (rgL_top b)
  have ha := (rgL_top a)
  rw [Int64.toInt_sub, Int64.toInt_mul, Int64.toInt_div, Int.bmod_mul_bmod, Int.sub_bmod_bmod]
  have e : a.toInt - a.toInt.tdiv b.toInt * b.toInt = a.toInt.tmod b.toInt := by rw [Int.tmod_def, Int.mul_comm]
  rw [e]
  apply bm64
  have h1 : (a.toInt.tmod b.toInt).natAbs ≤ a.toInt.natAbs := by rw [Int.natAbs_tmod]; exact Nat.mod_le _ _
  have h2 := ha.1
  have h3 := ha.2
  by_cases hneg : 0 ≤ a.toInt
  · have := Int.tmod_nonneg b.toInt hneg
    omega
  · have h4 : (-a.toInt).tmod b.toInt = -(a.toInt.tmod b.toInt) := Int.neg_tmod ..
    have h5 := Int.tmod_nonneg (a := -a.toInt) b.toInt (by omega)
    omega
section CommonR
variable {l : Launch} {D : va_G} {h : Nat → Nat} {cz : Nat → ClassId} {z : EZ} {i : Nat → Nat → Int32} {g : Nat → Nat → Int64}
set_option maxHeartbeats 4000000 in
theorem common_body {rm rm' : Room} (a b : Int64) (hnz : ¬ a.toInt = 0 ∨ ¬ b.toInt = 0) (hR : ¬ b = 0 → rm'.frames + 1 ≤ rm.frames ∧ 8 + (4 + 11) + rm'.locals ≤ rm.locals) (hrc : rm'.cells = 0 ∧ rm'.slots = 0) (rec : ¬ b = 0 → ∀ r : Int64, r = a - a / b * b → DtL l yX9_common cX9_common 4 (some .long) rm' D h cz z i g [.long b, .long r] (fun r u => u = (i, g) ∧ ¬ r.toInt = 0)) : DtL l yX9_common cX9_common 4 (some .long) rm D h cz z i g [.long a, .long b] (fun r u => u = (i, g) ∧ ¬ r.toInt = 0) := by
  refine e_L pn_X9_common (Nat.le_of_ble_eq_true rfl) ?_
  intro p e s m args below meth c ls Q X Y hret hT hl hS
  have hx := X.1
  have hb := X.2.1
  have hl : lv_has ls 4 [(0, .long a), (2, .long b)] := hl
  refine lv_lload_n hx hb dX9_common_0 rfl (lv_at hl 1 rfl) ?_
  refine lv_lconst (v := 0) hx hb dX9_common_1 (by decide) ?_
  refine W.lcmp hx hb dX9_common_2 ?_
  refine lv_if_ne (tgt := 21) hx hb dX9_common_3 (by decide) (fun c1 => ?_) (fun c1 => ?_)
  · have q1 : ¬ b = 0 := fun e0 => by rw [e0] at c1; exact c1 (by decide)
    refine lv_lload_n hx hb dX9_common_21 rfl (lv_at hl 1 rfl) ?_
    refine lv_lload_n hx hb dX9_common_22 rfl (lv_at hl 0 rfl) ?_
    refine lv_lload_n hx hb dX9_common_23 rfl (lv_at hl 1 rfl) ?_
    refine q_lrem hx hb dX9_common_24 q1 (fun y ey => ?_)
    refine e_Sl (As := [.long b, .long y]) (rest := []) X Y hT hS (rec q1 y ey) sk_X9_common gm_1912 hd_X9_common hrc (hR q1) hl.1 rfl (Nat.le_of_ble_eq_true rfl) dX9_common_25 ⟨Nat.zero_le _, Nat.zero_le _⟩ (fun r i1 g1 H locs hq hT hS => ?_)
    obtain ⟨eh, hr⟩ := hq
    exact hret r _ _ _ _ _ _ dX9_common_28 hT hS ⟨eh, hr⟩
  · have q1 : b.toInt = 0 := by
      rcases lg_val b 0 with ⟨_, e2⟩ | ⟨e2, _⟩ | ⟨_, e2⟩
      · rw [e2] at c1; exact absurd c1 (by decide)
      · exact e2
      · rw [e2] at c1; exact absurd c1 (by decide)
    have q2 : ¬ a.toInt = 0 := by rcases hnz with h1 | h1; exact h1; exact absurd q1 h1
    refine lv_lload_n hx hb dX9_common_6 rfl (lv_at hl 0 rfl) ?_
    refine lv_lconst (v := 0) hx hb dX9_common_7 (by decide) ?_
    refine W.lcmp hx hb dX9_common_8 ?_
    refine lv_if_ge (tgt := 17) hx hb dX9_common_9 (by decide) (fun c2 => ?_) (fun c2 => ?_)
    · refine lv_lload_n hx hb dX9_common_17 rfl (lv_at hl 0 rfl) ?_
      refine lv_goto (tgt := 28) hx hb dX9_common_18 (by decide) ?_
      exact hret a _ _ _ _ _ _ dX9_common_28 hT hS ⟨rfl, q2⟩
    · refine lv_lload_n hx hb dX9_common_12 rfl (lv_at hl 0 rfl) ?_
      refine q_lneg hx hb dX9_common_13 (fun y ey => ?_)
      refine lv_goto (tgt := 28) hx hb dX9_common_14 (by decide) ?_
      refine hret y _ _ _ _ _ _ dX9_common_28 hT hS ⟨rfl, fun h0 => q2 ?_⟩
      have : y = 0 := Int64.toInt_inj.mp h0
      rw [ey] at this
      have ha : a = 0 := by
        have h9 := congrArg (fun t : Int64 => -t) this
        simpa using h9
      rw [ha]
      rfl
theorem common_P : ∀ (k : Nat) (a b : Int64), (¬ a.toInt = 0 ∨ ¬ b.toInt = 0) → b.toInt.natAbs < 2 ^ k → DtL l yX9_common cX9_common 4 (some .long) ({ frames := 2 * k, cells := 0, slots := 0, locals := 46 * k } : Room) D h cz z i g [.long a, .long b] (fun r u => u = (i, g) ∧ ¬ r.toInt = 0) := by
  intro k
  induction k with
  | zero =>
    intro a b hnz hb
    have h1 : 2 ^ 0 = 1 := rfl
    have hb0 : b.toInt = 0 := by omega
    exact common_body (rm' := { frames := 0, cells := 0, slots := 0, locals := 0 }) a b hnz (fun h0 => absurd (Int64.toInt_inj.mp (hb0.trans rfl)) h0) ⟨rfl, rfl⟩ (fun h0 => absurd (Int64.toInt_inj.mp (hb0.trans rfl)) h0)
  | succ k ih =>
    intro a b hnz hb
    refine common_body (rm' := { frames := 2 * k + 1, cells := 0, slots := 0, locals := 46 * k + 23 }) a b hnz (fun _ => ⟨by show 2 * k + 1 + 1 ≤ 2 * (k + 1); omega, by show 8 + (4 + 11) + (46 * k + 23) ≤ 46 * (k + 1); omega⟩) ⟨rfl, rfl⟩ (fun hb0 r er => ?_)
    have hbn : ¬ b.toInt = 0 := fun h0 => hb0 (Int64.toInt_inj.mp h0)
    have er1 : r.toInt.natAbs = a.toInt.natAbs % b.toInt.natAbs := by rw [er, rem_ti, Int.natAbs_tmod]
    have hlt : r.toInt.natAbs < b.toInt.natAbs := by rw [er1]; exact Nat.mod_lt _ (by omega)
    refine common_body (rm' := { frames := 2 * k, cells := 0, slots := 0, locals := 46 * k }) b r (Or.inl hbn) (fun _ => ⟨Nat.le_refl _, by show 8 + (4 + 11) + 46 * k ≤ 46 * k + 23; omega⟩) ⟨rfl, rfl⟩ (fun hr0 r2 er2 => ?_)
    have hrn : ¬ r.toInt = 0 := fun h0 => hr0 (Int64.toInt_inj.mp h0)
    have er3 : r2.toInt.natAbs = b.toInt.natAbs % r.toInt.natAbs := by rw [er2, rem_ti, Int.natAbs_tmod]
    have hlt2 : r2.toInt.natAbs < r.toInt.natAbs := by rw [er3]; exact Nat.mod_lt _ (by omega)
    have hsum : r2.toInt.natAbs + r.toInt.natAbs ≤ b.toInt.natAbs := by
      have h1 := Nat.mod_add_div b.toInt.natAbs r.toInt.natAbs
      have h2 : 1 ≤ b.toInt.natAbs / r.toInt.natAbs := by
        rw [Nat.le_div_iff_mul_le (by omega)]
        omega
      have h3 : r.toInt.natAbs * 1 ≤ r.toInt.natAbs * (b.toInt.natAbs / r.toInt.natAbs) := Nat.mul_le_mul_left _ h2
      omega
    exact ih r r2 (Or.inl hrn) (by rw [Nat.pow_succ] at hb; omega)
theorem m_common (a_a a_b : Int64) (hnz : ¬ a_b.toInt = 0) : DtL l yX9_common cX9_common 4 (some .long) ({ frames := 128, cells := 0, slots := 0, locals := 2944 } : Room) D h cz z i g [.long a_a, .long a_b] (fun r u => u = (i, g) ∧ ¬ r.toInt = 0) :=
  common_P 64 a_a a_b (Or.inr hnz) (by
    have h1 := (rgL_top a_b).1
    have h2 := (rgL_top a_b).2
    have h3 : 2 ^ 64 = 18446744073709551616 := rfl
    omega)
end CommonR
