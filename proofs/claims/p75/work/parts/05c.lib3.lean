/-! ranges, more rows -/
theorem rg_of {lo hi : Int} {a b : Int32} (e : a = b) (h : rg lo hi b) : rg lo hi a := by rw [e]; exact h
theorem rg_fo {lo hi : Int} {a b : Int32} (e : a = b) (h : rg lo hi a) : rg lo hi b := by rw [← e]; exact h
theorem nz_I {lo hi : Int} {y : Int32} (h : rg lo hi y) (hn : 0 < lo ∨ hi < 0) : ¬ y = 0 := by
  intro e
  have h1 := h.1
  have h2 := h.2
  rw [e] at h1 h2
  have : (0 : Int32).toInt = 0 := rfl
  omega
theorem nz_L {lo hi : Int} {y : Int64} (h : rgL lo hi y) (hn : 0 < lo ∨ hi < 0) : ¬ y = 0 := by
  intro e
  have h1 := h.1
  have h2 := h.2
  rw [e] at h1 h2
  have : (0 : Int64).toInt = 0 := rfl
  omega
theorem nz_I0 {y : Int32} (h : ¬ y.toInt = 0) : ¬ y = 0 := fun e => h (by rw [e]; rfl)
theorem nz_L0 {y : Int64} (h : ¬ y.toInt = 0) : ¬ y = 0 := fun e => h (by rw [e]; rfl)
theorem ti_nn {x : Int32} (h : 0 ≤ x.toInt) : x.toInt = (x.toBitVec.toNat : Int) := by
  have h1 : x.toInt = x.toBitVec.toInt := rfl
  rw [h1, BitVec.toInt_eq_toNat_cond]
  rw [h1, BitVec.toInt_eq_toNat_cond] at h
  have := x.toBitVec.isLt
  split <;> split at h <;> omega
theorem nn_ti {x : Int32} {n : Nat} (h : x.toBitVec.toNat ≤ n) (hn : n < 2147483648) : 0 ≤ x.toInt ∧ x.toInt ≤ (n : Int) := by
  have h1 : x.toInt = x.toBitVec.toInt := rfl
  rw [h1, BitVec.toInt_eq_toNat_cond]
  split <;> omega
theorem rg_andr {a b lo hi : Int} {x y z : Int32} (e : z = x &&& y) (h : rg a b y) (hn : 0 ≤ a ∧ lo ≤ 0 ∧ b ≤ hi) : rg lo hi z := by
  have hy : 0 ≤ y.toInt := by have := h.1; omega
  have e1 := ti_nn hy
  have hlt : (y.toBitVec.toNat : Int) ≤ 2147483647 := by have := (rg_top y).2; omega
  have hz : z.toBitVec.toNat ≤ y.toBitVec.toNat := by
    rw [e, Int32.toBitVec_and, BitVec.toNat_and]
    exact Nat.and_le_right
  have := nn_ti hz (by omega)
  have := h.2
  exact ⟨by omega, by omega⟩
theorem rg_andl {a b lo hi : Int} {x y z : Int32} (e : z = x &&& y) (h : rg a b x) (hn : 0 ≤ a ∧ lo ≤ 0 ∧ b ≤ hi) : rg lo hi z := by
  have hy : 0 ≤ x.toInt := by have := h.1; omega
  have e1 := ti_nn hy
  have hlt : (x.toBitVec.toNat : Int) ≤ 2147483647 := by have := (rg_top x).2; omega
  have hz : z.toBitVec.toNat ≤ x.toBitVec.toNat := by
    rw [e, Int32.toBitVec_and, BitVec.toNat_and]
    exact Nat.and_le_left
  have := nn_ti hz (by omega)
  have := h.2
  exact ⟨by omega, by omega⟩
theorem rg_or8 {a b c d lo hi : Int} {x y z : Int32} (e : z = x ||| y) (h1 : rg a b x) (h2 : rg c d y) (hn : 0 ≤ a ∧ 0 ≤ c ∧ b < 256 ∧ d < 256 ∧ lo ≤ 0 ∧ 255 ≤ hi) : rg lo hi z := by
  have e1 := ti_nn (x := x) (by have := h1.1; omega)
  have e2 := ti_nn (x := y) (by have := h2.1; omega)
  have hz : z.toBitVec.toNat ≤ 255 := by
    rw [e, Int32.toBitVec_or, BitVec.toNat_or]
    have := Nat.or_lt_two_pow (n := 8) (x := x.toBitVec.toNat) (y := y.toBitVec.toNat) (by have := h1.2; omega) (by have := h2.2; omega)
    omega
  have := nn_ti hz (by omega)
  exact ⟨by omega, by omega⟩
theorem rg_shl1 {a b hi : Int} {y z : Int32} (e : z = 1 <<< (y &&& 31)) (h : rg a b y) (hn : 0 ≤ a ∧ b ≤ 10 ∧ ((2 : Int) ^ b.toNat) ≤ hi) : rg 1 hi z := by
  have h1 := h.1
  have h2 := h.2
  have key : ∀ k : Nat, k ≤ 10 → y.toInt = (k : Int) → rg 1 ((2 : Int) ^ k) z := by
    intro k hk hy
    have hy' : y = Int32.ofNat k := Int32.toInt_inj.mp (by
      rw [hy]
      exact ((by decide : ∀ k : Fin 11, (Int32.ofNat k.val).toInt = (k.val : Int)) ⟨k, by omega⟩).symm)
    rw [e, hy']
    exact (by decide : ∀ k : Fin 11, (1 : Int) ≤ ((1 : Int32) <<< (Int32.ofNat k.val &&& 31)).toInt ∧ ((1 : Int32) <<< (Int32.ofNat k.val &&& 31)).toInt ≤ (2 : Int) ^ k.val) ⟨k, by omega⟩
  obtain ⟨k, hk⟩ := Int.eq_ofNat_of_zero_le (show 0 ≤ y.toInt by omega)
  have hk10 : k ≤ 10 := by omega
  have hr := key k hk10 hk
  refine ⟨hr.1, Int.le_trans hr.2 (Int.le_trans ?_ hn.2.2)⟩
  have hkb : k ≤ b.toNat := by omega
  exact (by decide : ∀ (k b : Fin 11), k.val ≤ b.val → (2 : Int) ^ k.val ≤ (2 : Int) ^ b.val) ⟨k, by omega⟩ ⟨b.toNat, by omega⟩ hkb
theorem rg_l2i {a b lo hi : Int} {x : Int64} {z : Int32} (e : x.toInt32 = z) (h : rgL a b x) (hn : -2147483648 ≤ a ∧ b ≤ 2147483647 ∧ lo ≤ a ∧ b ≤ hi) : rg lo hi z := by
  have h1 := h.1
  have h2 := h.2
  have hz : z.toInt = x.toInt := by
    rw [← e, Int64.toInt_toInt32]
    exact bm32 (by omega)
  exact ⟨by omega, by omega⟩
theorem rg_i2c {x z : Int32} (e : (x.toUInt32 % 65536).toInt32 = z) : rg 0 65535 z := by
  have hz : z.toBitVec.toNat ≤ 65535 := by
    rw [← e]
    show (x.toUInt32 % 65536).toBitVec.toNat ≤ 65535
    have : (x.toUInt32 % 65536).toNat = x.toUInt32.toNat % 65536 := by simp [UInt32.toNat_mod]
    have h2 : (x.toUInt32 % 65536).toBitVec.toNat = (x.toUInt32 % 65536).toNat := rfl
    omega
  have := nn_ti hz (by omega)
  exact ⟨by omega, by omega⟩
theorem rg_div {a b c d : Int} {x y z : Int32} (e : z = x / y) (h : rg a b x) (hy : rg c d y) (hn : 0 ≤ a ∧ 0 < c) : rg 0 b z ∧ z.toInt = x.toInt / y.toInt := by
  have h1 := h.1
  have h2 := h.2
  have h3 := hy.1
  have hx2 := (rg_top x).2
  have e0 : x.toInt / y.toInt ≤ x.toInt := Int.ediv_le_self _ (by omega)
  have e1 : 0 ≤ x.toInt / y.toInt := Int.ediv_nonneg (by omega) (by omega)
  have hz : z.toInt = x.toInt / y.toInt := by
    rw [e, Int32.toInt_div, Int.tdiv_eq_ediv_of_nonneg (by omega)]
    exact bm32 (by omega)
  exact ⟨⟨by omega, by omega⟩, hz⟩
theorem rg_rem {a b c hi : Int} {x y z : Int32} (e : z = x - x / y * y) (h : rg a b x) (hy : rg c c y) (hn : 0 ≤ a ∧ 0 < c ∧ c - 1 ≤ hi) : rg 0 hi z ∧ z.toInt = x.toInt % c := by
  have h1 := h.1
  have h3 : y.toInt = c := by have := hy.1; have := hy.2; omega
  obtain ⟨hq, eq⟩ := rg_div (z := x / y) rfl h hy ⟨hn.1, hn.2.1⟩
  rw [h3] at eq
  have hx2 := (rg_top x).2
  have em := Int.emod_add_mul_ediv x.toInt c
  have m0 := Int.emod_nonneg x.toInt (show c ≠ 0 by omega)
  have m1 := Int.emod_lt_of_pos x.toInt hn.2.1
  have hp : 0 ≤ c * (x.toInt / c) := Int.mul_nonneg (by omega) (by have := hq.1; omega)
  have ec : (x / y * y).toInt = c * (x.toInt / c) := by
    rw [e_mul (by rw [eq, h3, Int.mul_comm]; omega), eq, h3, Int.mul_comm]
  have es : z.toInt = x.toInt % c := by
    rw [e, e_sub (by rw [ec]; omega), ec]
    omega
  exact ⟨⟨by omega, by omega⟩, es⟩
theorem cp_le {a b c d : Int} {x n : Int32} {L : Nat} (h1 : rg a b x) (h2 : rg c d n) (hn : 0 ≤ a ∧ 0 ≤ c ∧ b + d ≤ (L : Int)) : x.toNatClampNeg + n.toNatClampNeg ≤ L := by
  have e1 := cl_int h1 hn.1
  have e2 := cl_int h2 hn.2.1
  have := h1.2
  have := h2.2
  omega
/-! what a method may write -/
def Fr (LI LG : List Nat) (i : Nat → Nat → Int32) (g : Nat → Nat → Int64) (u : St2) : Prop := (∀ j, LI.contains j = false → u.1 j = i j) ∧ (∀ j, LG.contains j = false → u.2 j = g j)
theorem Fr_rf (LI LG : List Nat) (i : Nat → Nat → Int32) (g : Nat → Nat → Int64) : Fr LI LG i g (i, g) := ⟨fun _ _ => rfl, fun _ _ => rfl⟩
theorem Fr_ne {LI : List Nat} {j q : Nat} (h : LI.contains j = true) (hq : LI.contains q = false) : q ≠ j := fun e => by rw [e, h] at hq; cases hq
theorem Fr_puti {LI LG : List Nat} {i i1 i2 : Nat → Nat → Int32} {g g1 : Nat → Nat → Int64} {j k : Nat} {v : Int32} (h : Fr LI LG i g (i1, g1)) (e : i2 = up2 i1 j k v) (hj : LI.contains j = true) : Fr LI LG i g (i2, g1) :=
  ⟨fun q hq => by show i2 q = i q; rw [e, up2_j (Fr_ne hj hq)]; exact h.1 q hq, h.2⟩
theorem Fr_putl {LI LG : List Nat} {i i1 : Nat → Nat → Int32} {g g1 g2 : Nat → Nat → Int64} {j k : Nat} {v : Int64} (h : Fr LI LG i g (i1, g1)) (e : g2 = up3 g1 j k v) (hj : LG.contains j = true) : Fr LI LG i g (i1, g2) :=
  ⟨h.1, fun q hq => by show g2 q = g q; rw [e, up3_j (Fr_ne hj hq)]; exact h.2 q hq⟩
theorem Fr_cpy {LI LG : List Nat} {i i1 i2 : Nat → Nat → Int32} {g g1 : Nat → Nat → Int64} {j : Nat} {f : Nat → Int32} (h : Fr LI LG i g (i1, g1)) (e : i2 = up1 i1 j f) (hj : LI.contains j = true) : Fr LI LG i g (i2, g1) :=
  ⟨fun q hq => by show i2 q = i q; rw [e, up1_j (Fr_ne hj hq)]; exact h.1 q hq, h.2⟩
theorem Fr_cpyl {LI LG : List Nat} {i i1 : Nat → Nat → Int32} {g g1 g2 : Nat → Nat → Int64} {j : Nat} {f : Nat → Int64} (h : Fr LI LG i g (i1, g1)) (e : g2 = up5 g1 j f) (hj : LG.contains j = true) : Fr LI LG i g (i1, g2) :=
  ⟨h.1, fun q hq => by show g2 q = g q; rw [e, up5_j (Fr_ne hj hq)]; exact h.2 q hq⟩
theorem Fr_out {L L' : List Nat} (h : L'.all (fun j => L.contains j) = true) {j : Nat} (hj : L.contains j = false) : L'.contains j = false := by
  cases hc : L'.contains j with
  | false => rfl
  | true =>
    have hm : j ∈ L' := by simpa using hc
    have := List.all_eq_true.mp h j hm
    rw [hj] at this
    cases this
theorem Fr_tr {LI LG LI' LG' : List Nat} {i i1 : Nat → Nat → Int32} {g g1 : Nat → Nat → Int64} {u : St2} (h : Fr LI LG i g (i1, g1)) (h' : Fr LI' LG' i1 g1 u) (hc : (LI'.all (fun j => LI.contains j) && LG'.all (fun j => LG.contains j)) = true) : Fr LI LG i g u := by
  have h1 := (Bool.and_eq_true_iff.mp hc).1
  have h2 := (Bool.and_eq_true_iff.mp hc).2
  exact ⟨fun q hq => (h'.1 q (Fr_out h1 hq)).trans (h.1 q hq), fun q hq => (h'.2 q (Fr_out h2 hq)).trans (h.2 q hq)⟩
theorem z_F {LI LG : List Nat} {i : Nat → Nat → Int32} {g : Nat → Nat → Int64} {u : St2} {a b : Nat} {x : Int32} (h : Fr LI LG i g u) (z : i a b = x) (hn : LI.contains a = false) : u.1 a b = x := by rw [h.1 a hn]; exact z
theorem z_c {i i1 : Nat → Nat → Int32} {j a b : Nat} {f : Nat → Int32} {x : Int32} (e : i1 = up1 i j f) (z : i a b = x) (hne : a ≠ j) : i1 a b = x := by rw [e, up1_j hne]; exact z
theorem Rg_same {T : Nat → Nat → Int × Int} {LG : List Nat} {i : Nat → Nat → Int32} {g : Nat → Nat → Int64} {u : St2} (hR : Rg T i) (h : Fr [] LG i g u) : Rg T u.1 := by
  intro j k hk
  rw [h.1 j rfl]
  exact hR j k hk
theorem Rg_fr {T T' : List ((Int × Int) ⊕ List (Int × Int))} {LI LG : List Nat} {i : Nat → Nat → Int32} {g : Nat → Nat → Int64} {u : St2} (hR : Rg (rT T) i) (hf : Fr LI LG i g u) (hR' : Rg (rT T') u.1) (h : LI.all (fun j => (List.range (ln j)).all (fun k => decide ((rT T j k).1 ≤ (rT T' j k).1) && decide ((rT T' j k).2 ≤ (rT T j k).2))) = true) : Rg (rT T) u.1 := by
  intro j k hk
  cases hc : LI.contains j with
  | false => rw [hf.1 j hc]; exact hR j k hk
  | true =>
    have hm : j ∈ LI := by simpa using hc
    have h1 := List.all_eq_true.mp (List.all_eq_true.mp h j hm) k (List.mem_range.mpr hk)
    have h2 := Bool.and_eq_true_iff.mp h1
    have h3 := of_decide_eq_true h2.1
    have h4 := of_decide_eq_true h2.2
    have h5 := hR' j k hk
    exact ⟨by have := h5.1; omega, by have := h5.2; omega⟩
theorem Rg_ata {T : Nat → Nat → Int × Int} {i : Nat → Nat → Int32} (hR : Rg T i) (j k : Nat) (lo hi : Int) (hk : k < ln j) (ht : lo ≤ (T j k).1 ∧ (T j k).2 ≤ hi) : rg lo hi (i j k) := by
  have := hR j k hk
  exact ⟨by have := this.1; omega, by have := this.2; omega⟩
theorem Rg_puta {T : Nat → Nat → Int × Int} {i i1 : Nat → Nat → Int32} {j k : Nat} {v : Int32} {a b : Int} (hR : Rg T i) (e : i1 = up2 i j k v) (lo hi : Int) (ht : (T j k).1 ≤ lo ∧ hi ≤ (T j k).2) (hv : rg a b v) (hn : lo ≤ a ∧ b ≤ hi) : Rg T i1 := by
  intro q r hr
  by_cases hq : q = j
  · subst hq
    by_cases hk : r = k
    · subst hk
      rw [e, up2_at]
      exact ⟨by have := hv.1; omega, by have := hv.2; omega⟩
    · rw [e, up2_k hk]
      exact hR q r hr
  · rw [e, up2_j hq]
    exact hR q r hr
theorem aff_k {m a n c : Nat} {x : Int32} {v : Int} (hv : (a : Int) ≤ v ∧ v < (a : Int) + n) (e : x.toInt = m * v + c) : ∃ q, q < n ∧ x.toNatClampNeg = m * (a + q) + c := by
  obtain ⟨w, hw⟩ := Int.eq_ofNat_of_zero_le (show 0 ≤ v by omega)
  subst hw
  refine ⟨w - a, by omega, ?_⟩
  have hw2 : a + (w - a) = w := by omega
  rw [hw2]
  show x.toInt.toNat = _
  rw [e]
  have : ((m : Int) * (w : Int) + (c : Int)) = ((m * w + c : Nat) : Int) := by push_cast; rfl
  rw [this]
  rfl
theorem aff_at {T : Nat → Nat → Int × Int} {j : Nat} {lo hi : Int} {m a n c : Nat} (hd : (List.range n).all (fun q => decide (lo ≤ (T j (m * (a + q) + c)).1) && decide ((T j (m * (a + q) + c)).2 ≤ hi)) = true) {x : Int32} {v : Int} (hv : (a : Int) ≤ v ∧ v < (a : Int) + n) (e : x.toInt = m * v + c) : lo ≤ (T j x.toNatClampNeg).1 ∧ (T j x.toNatClampNeg).2 ≤ hi := by
  obtain ⟨q, hq, ek⟩ := aff_k hv e
  have h1 := Bool.and_eq_true_iff.mp (List.all_eq_true.mp hd q (List.mem_range.mpr hq))
  rw [ek]
  exact ⟨of_decide_eq_true h1.1, of_decide_eq_true h1.2⟩
theorem aff_put {T : Nat → Nat → Int × Int} {j : Nat} {lo hi : Int} {m a n c : Nat} (hd : (List.range n).all (fun q => decide ((T j (m * (a + q) + c)).1 ≤ lo) && decide (hi ≤ (T j (m * (a + q) + c)).2)) = true) {x : Int32} {v : Int} (hv : (a : Int) ≤ v ∧ v < (a : Int) + n) (e : x.toInt = m * v + c) : (T j x.toNatClampNeg).1 ≤ lo ∧ hi ≤ (T j x.toNatClampNeg).2 := by
  obtain ⟨q, hq, ek⟩ := aff_k hv e
  have h1 := Bool.and_eq_true_iff.mp (List.all_eq_true.mp hd q (List.mem_range.mpr hq))
  rw [ek]
  exact ⟨of_decide_eq_true h1.1, of_decide_eq_true h1.2⟩
theorem Rg_mv {T : Nat → Nat → Int × Int} {i i1 : Nat → Nat → Int32} {j k1 k2 : Nat} (hR : Rg T i) (e : i1 = up2 i j k2 (i j k1)) (h1 : k1 < ln j) (ht : T j k2 = T j k1) : Rg T i1 := by
  intro q r hr
  by_cases hq : q = j
  · subst hq
    by_cases hk : r = k2
    · subst hk
      rw [e, up2_at, ht]
      exact hR q k1 h1
    · rw [e, up2_k hk]
      exact hR q r hr
  · rw [e, up2_j hq]
    exact hR q r hr
theorem aff_mv {T : Nat → Nat → Int × Int} {j m a n c c1 : Nat} (hd : (List.range n).all (fun q => decide (T j (m * (a + q) + c) = T j (m * (a + q) + c1))) = true) {x x1 : Int32} {v : Int} (hv : (a : Int) ≤ v ∧ v < (a : Int) + n) (e : x.toInt = m * v + c) (e1 : x1.toInt = m * v + c1) : T j x.toNatClampNeg = T j x1.toNatClampNeg := by
  have cl : ∀ (y : Int32) (d : Nat), y.toInt = m * v + d → ∀ w : Nat, v = (w : Int) → y.toNatClampNeg = m * w + d := by
    intro y d ey w hw
    show y.toInt.toNat = _
    rw [ey, hw]
    have : ((m : Int) * (w : Int) + (d : Int)) = ((m * w + d : Nat) : Int) := by push_cast; rfl
    rw [this]
    rfl
  obtain ⟨w, hw⟩ := Int.eq_ofNat_of_zero_le (show 0 ≤ v by omega)
  have hh := of_decide_eq_true (List.all_eq_true.mp hd (w - a) (List.mem_range.mpr (by omega)))
  have hw2 : a + (w - a) = w := by omega
  rw [hw2] at hh
  rw [cl x c e w hw, cl x1 c1 e1 w hw]
  exact hh
theorem sh0 (x : Int32) : x >>> ((0 : Int32) &&& 31) = x := by
  have h : ((0 : Int32) &&& 31) = 0 := by decide
  rw [h]
  exact Int32.shiftRight_zero
theorem nar_c {r : Int32} (h : rg 0 65535 r) : narrow .char (.int r) = .int r := by
  have e := ti_nn h.1
  have h2 := h.2
  show Value.int _ = _
  congr 1
  apply Int32.toBitVec_inj.mp
  apply BitVec.eq_of_toNat_eq
  show (r.toUInt32.toUInt16.toUInt32).toBitVec.toNat = r.toBitVec.toNat
  have h3 : (r.toUInt32.toUInt16.toUInt32).toBitVec.toNat = r.toBitVec.toNat % 65536 := by rfl
  rw [h3]
  omega
theorem rg_mx {a b c d lo hi : Int} {x y z : Int32} (e : z = if x < y then y else x) (h1 : rg a b x) (h2 : rg c d y) (hn : (lo ≤ a ∨ lo ≤ c) ∧ b ≤ hi ∧ d ≤ hi) : rg lo hi z := by
  have q1 := h1.1
  have q2 := h1.2
  have q3 := h2.1
  have q4 := h2.2
  rw [e]
  split
  · rename_i h
    have := i_lt h
    exact ⟨by omega, by omega⟩
  · rename_i h
    have := i_nlt h
    exact ⟨by omega, by omega⟩
theorem rg_mn {a b c d lo hi : Int} {x y z : Int32} (e : z = if y < x then y else x) (h1 : rg a b x) (h2 : rg c d y) (hn : lo ≤ a ∧ lo ≤ c ∧ (b ≤ hi ∨ d ≤ hi)) : rg lo hi z := by
  have q1 := h1.1
  have q2 := h1.2
  have q3 := h2.1
  have q4 := h2.2
  rw [e]
  split
  · rename_i h
    have := i_lt h
    exact ⟨by omega, by omega⟩
  · rename_i h
    have := i_nlt h
    exact ⟨by omega, by omega⟩
theorem rgL_mx {a b c d lo hi : Int} {x y z : Int64} (e : z = if y < x then x else y) (h1 : rgL a b x) (h2 : rgL c d y) (hn : (lo ≤ a ∨ lo ≤ c) ∧ b ≤ hi ∧ d ≤ hi) : rgL lo hi z := by
  have q1 := h1.1
  have q2 := h1.2
  have q3 := h2.1
  have q4 := h2.2
  rw [e]
  split
  · rename_i h
    have := l_lt h
    exact ⟨by omega, by omega⟩
  · rename_i h
    have := l_nlt h
    exact ⟨by omega, by omega⟩
