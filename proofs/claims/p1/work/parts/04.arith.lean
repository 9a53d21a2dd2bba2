/-! ints between two numbers -/
def rgL (lo hi : Int) (x : Int64) : Prop := lo ≤ x.toInt ∧ x.toInt ≤ hi
theorem rg_k {lo hi : Int} {x : Int32} (h : (decide (lo ≤ x.toInt) && decide (x.toInt ≤ hi)) = true) : rg lo hi x := by
  simp only [Bool.and_eq_true, decide_eq_true_eq] at h; exact h
theorem rgL_k {lo hi : Int} {x : Int64} (h : (decide (lo ≤ x.toInt) && decide (x.toInt ≤ hi)) = true) : rgL lo hi x := by
  simp only [Bool.and_eq_true, decide_eq_true_eq] at h; exact h
theorem rg_top (x : Int32) : rg (-2147483648) 2147483647 x := ⟨by have := x.le_toInt; simpa using this, by have := x.toInt_lt; simp at this; omega⟩
theorem rgL_top (x : Int64) : rgL (-9223372036854775808) 9223372036854775807 x := ⟨by have := x.le_toInt; simpa using this, by have := x.toInt_lt; simp at this; omega⟩
theorem rg_w {a b lo hi : Int} {x : Int32} (h : rg a b x) (h1 : lo ≤ a ∧ b ≤ hi) : rg lo hi x := ⟨by have := h.1; omega, by have := h.2; omega⟩
theorem rgL_w {a b lo hi : Int} {x : Int64} (h : rgL a b x) (h1 : lo ≤ a ∧ b ≤ hi) : rgL lo hi x := ⟨by have := h.1; omega, by have := h.2; omega⟩
theorem i_lt {x y : Int32} (h : x < y) : x.toInt < y.toInt := Int32.lt_iff_toInt_lt.mp h
theorem i_le {x y : Int32} (h : x ≤ y) : x.toInt ≤ y.toInt := Int32.le_iff_toInt_le.mp h
theorem i_nlt {x y : Int32} (h : ¬ x < y) : y.toInt ≤ x.toInt := by rw [Int32.lt_iff_toInt_lt] at h; omega
theorem i_nle {x y : Int32} (h : ¬ x ≤ y) : y.toInt < x.toInt := by rw [Int32.le_iff_toInt_le] at h; omega
theorem i_eq {x y : Int32} (h : x = y) : x.toInt = y.toInt := by rw [h]
theorem i_ne {x y : Int32} (h : ¬ x = y) : ¬ x.toInt = y.toInt := fun q => h (Int32.toInt_inj.mp q)
theorem l_lt {x y : Int64} (h : x < y) : x.toInt < y.toInt := Int64.lt_iff_toInt_lt.mp h
theorem l_le {x y : Int64} (h : x ≤ y) : x.toInt ≤ y.toInt := Int64.le_iff_toInt_le.mp h
theorem l_nlt {x y : Int64} (h : ¬ x < y) : y.toInt ≤ x.toInt := by rw [Int64.lt_iff_toInt_lt] at h; omega
theorem l_nle {x y : Int64} (h : ¬ x ≤ y) : y.toInt < x.toInt := by rw [Int64.le_iff_toInt_le] at h; omega
theorem l_eq {x y : Int64} (h : x = y) : x.toInt = y.toInt := by rw [h]
theorem l_ne {x y : Int64} (h : ¬ x = y) : ¬ x.toInt = y.toInt := fun q => h (Int64.toInt_inj.mp q)
/-- the answer of lcmp against 0 -/
theorem lg_val (x y : Int64) : (y.toInt < x.toInt ∧ lg_cmp x y = 1) ∨ (x.toInt = y.toInt ∧ lg_cmp x y = 0) ∨ (x.toInt < y.toInt ∧ lg_cmp x y = -1) := by
  unfold lg_cmp
  by_cases h1 : x > y
  · exact Or.inl ⟨Int64.lt_iff_toInt_lt.mp h1, by simp [h1]⟩
  · by_cases h2 : x = y
    · exact Or.inr (Or.inl ⟨by rw [h2], by simp [h2]⟩)
    · have h3 : ¬ y < x := h1
      rw [Int64.lt_iff_toInt_lt] at h3
      exact Or.inr (Or.inr ⟨by have := l_ne h2; omega, by simp [h1, h2]⟩)
theorem c_lt {x y : Int64} (h : lg_cmp x y < 0) : x.toInt < y.toInt := by
  rcases lg_val x y with ⟨a, b⟩ | ⟨a, b⟩ | ⟨a, b⟩
  · rw [b] at h; exact absurd h (by decide)
  · rw [b] at h; exact absurd h (by decide)
  · exact a
theorem c_nlt {x y : Int64} (h : ¬ lg_cmp x y < 0) : y.toInt ≤ x.toInt := by
  rcases lg_val x y with ⟨a, b⟩ | ⟨a, b⟩ | ⟨a, b⟩
  · omega
  · omega
  · rw [b] at h; exact absurd (by decide) h
theorem c_ge {x y : Int64} (h : 0 ≤ lg_cmp x y) : y.toInt ≤ x.toInt := by
  rcases lg_val x y with ⟨a, b⟩ | ⟨a, b⟩ | ⟨a, b⟩
  · omega
  · omega
  · rw [b] at h; exact absurd h (by decide)
theorem c_nge {x y : Int64} (h : ¬ 0 ≤ lg_cmp x y) : x.toInt < y.toInt := by
  rcases lg_val x y with ⟨a, b⟩ | ⟨a, b⟩ | ⟨a, b⟩
  · rw [b] at h; exact absurd (by decide) h
  · rw [b] at h; exact absurd (by decide) h
  · exact a
theorem c_gt {x y : Int64} (h : 0 < lg_cmp x y) : y.toInt < x.toInt := by
  rcases lg_val x y with ⟨a, b⟩ | ⟨a, b⟩ | ⟨a, b⟩
  · exact a
  · rw [b] at h; exact absurd h (by decide)
  · rw [b] at h; exact absurd h (by decide)
theorem c_ngt {x y : Int64} (h : ¬ 0 < lg_cmp x y) : x.toInt ≤ y.toInt := by
  rcases lg_val x y with ⟨a, b⟩ | ⟨a, b⟩ | ⟨a, b⟩
  · rw [b] at h; exact absurd (by decide) h
  · omega
  · omega
theorem c_le {x y : Int64} (h : lg_cmp x y ≤ 0) : x.toInt ≤ y.toInt := by
  rcases lg_val x y with ⟨a, b⟩ | ⟨a, b⟩ | ⟨a, b⟩
  · rw [b] at h; exact absurd h (by decide)
  · omega
  · omega
theorem c_nle {x y : Int64} (h : ¬ lg_cmp x y ≤ 0) : y.toInt < x.toInt := by
  rcases lg_val x y with ⟨a, b⟩ | ⟨a, b⟩ | ⟨a, b⟩
  · exact a
  · rw [b] at h; exact absurd (by decide) h
  · rw [b] at h; exact absurd (by decide) h
theorem c_eq {x y : Int64} (h : lg_cmp x y = 0) : x.toInt = y.toInt := by
  rcases lg_val x y with ⟨a, b⟩ | ⟨a, b⟩ | ⟨a, b⟩
  · rw [b] at h; exact absurd h (by decide)
  · exact a
  · rw [b] at h; exact absurd h (by decide)
theorem c_ne {x y : Int64} (h : ¬ lg_cmp x y = 0) : ¬ x.toInt = y.toInt := by
  rcases lg_val x y with ⟨a, b⟩ | ⟨a, b⟩ | ⟨a, b⟩
  · omega
  · rw [b] at h; exact absurd rfl h
  · omega
theorem rg_lcmp (x y : Int64) : rg (-1) 1 (lg_cmp x y) := by
  rcases lg_val x y with ⟨a, b⟩ | ⟨a, b⟩ | ⟨a, b⟩ <;> rw [b] <;> exact rg_k (by decide)
/-! narrower by a comparison of their numbers; u = x.toInt, w = y.toInt -/
theorem n_hi {a b hi : Int} {x : Int32} (h : rg a b x) {w : Int} (q : x.toInt ≤ w) (hw : w ≤ hi) : rg a hi x := ⟨h.1, by omega⟩
theorem n_lo {a b lo : Int} {x : Int32} (h : rg a b x) {w : Int} (q : w ≤ x.toInt) (hw : lo ≤ w) : rg lo b x := ⟨by omega, h.2⟩
theorem nL_hi {a b hi : Int} {x : Int64} (h : rgL a b x) {w : Int} (q : x.toInt ≤ w) (hw : w ≤ hi) : rgL a hi x := ⟨h.1, by omega⟩
theorem nL_lo {a b lo : Int} {x : Int64} (h : rgL a b x) {w : Int} (q : w ≤ x.toInt) (hw : lo ≤ w) : rgL lo b x := ⟨by omega, h.2⟩
theorem x_lt {a b c d u w : Int} (h1 : a ≤ u ∧ u ≤ b) (h2 : c ≤ w ∧ w ≤ d) (q : u < w) (hn : d ≤ a) : False := by omega
theorem x_le {a b c d u w : Int} (h1 : a ≤ u ∧ u ≤ b) (h2 : c ≤ w ∧ w ≤ d) (q : u ≤ w) (hn : d < a) : False := by omega
theorem x_eq {a b c d u w : Int} (h1 : a ≤ u ∧ u ≤ b) (h2 : c ≤ w ∧ w ≤ d) (q : u = w) (hn : d < a ∨ b < c) : False := by omega
theorem x_ne {a b c d u w : Int} (h1 : a ≤ u ∧ u ≤ b) (h2 : c ≤ w ∧ w ≤ d) (q : ¬ u = w) (hn : a = b ∧ c = d ∧ a = c) : False := by omega
/-- x < y: both bounds; the numbers as they come out -/
theorem t_ltx {a b c d : Int} (lo hi : Int) {x y : Int32} (h1 : rg a b x) (h2 : rg c d y) (q : x.toInt < y.toInt) (hn : lo ≤ a ∧ (b ≤ hi ∨ d - 1 ≤ hi)) : rg lo hi x := by have := h1.1; have := h1.2; have := h2.1; have := h2.2; constructor <;> omega
theorem t_lty {a b c d : Int} (lo hi : Int) {x y : Int32} (h1 : rg a b x) (h2 : rg c d y) (q : x.toInt < y.toInt) (hn : d ≤ hi ∧ (lo ≤ c ∨ lo ≤ a + 1)) : rg lo hi y := by have := h1.1; have := h1.2; have := h2.1; have := h2.2; constructor <;> omega
theorem t_lex {a b c d : Int} (lo hi : Int) {x y : Int32} (h1 : rg a b x) (h2 : rg c d y) (q : x.toInt ≤ y.toInt) (hn : lo ≤ a ∧ (b ≤ hi ∨ d ≤ hi)) : rg lo hi x := by have := h1.1; have := h1.2; have := h2.1; have := h2.2; constructor <;> omega
theorem t_ley {a b c d : Int} (lo hi : Int) {x y : Int32} (h1 : rg a b x) (h2 : rg c d y) (q : x.toInt ≤ y.toInt) (hn : d ≤ hi ∧ (lo ≤ c ∨ lo ≤ a)) : rg lo hi y := by have := h1.1; have := h1.2; have := h2.1; have := h2.2; constructor <;> omega
theorem t_eqx {a b c d : Int} (lo hi : Int) {x y : Int32} (h1 : rg a b x) (h2 : rg c d y) (q : x.toInt = y.toInt) (hn : (lo ≤ a ∨ lo ≤ c) ∧ (b ≤ hi ∨ d ≤ hi)) : rg lo hi x := by have := h1.1; have := h1.2; have := h2.1; have := h2.2; constructor <;> omega
theorem t_eqy {a b c d : Int} (lo hi : Int) {x y : Int32} (h1 : rg a b x) (h2 : rg c d y) (q : x.toInt = y.toInt) (hn : (lo ≤ a ∨ lo ≤ c) ∧ (b ≤ hi ∨ d ≤ hi)) : rg lo hi y := by have := h1.1; have := h1.2; have := h2.1; have := h2.2; constructor <;> omega
/-- x ≠ y, y one number at x's bound -/
theorem t_nelo {a b c d : Int} (lo : Int) {x y : Int32} (h1 : rg a b x) (h2 : rg c d y) (q : ¬ x.toInt = y.toInt) (hn : c = d ∧ c = a ∧ lo = a + 1) : rg lo b x := by have := h1.1; have := h1.2; have := h2.1; have := h2.2; constructor <;> omega
theorem t_nehi {a b c d : Int} (hi : Int) {x y : Int32} (h1 : rg a b x) (h2 : rg c d y) (q : ¬ x.toInt = y.toInt) (hn : c = d ∧ c = b ∧ hi = b - 1) : rg a hi x := by have := h1.1; have := h1.2; have := h2.1; have := h2.2; constructor <;> omega
theorem tL_ltx {a b c d : Int} (lo hi : Int) {x y : Int64} (h1 : rgL a b x) (h2 : rgL c d y) (q : x.toInt < y.toInt) (hn : lo ≤ a ∧ (b ≤ hi ∨ d - 1 ≤ hi)) : rgL lo hi x := by have := h1.1; have := h1.2; have := h2.1; have := h2.2; constructor <;> omega
theorem tL_lty {a b c d : Int} (lo hi : Int) {x y : Int64} (h1 : rgL a b x) (h2 : rgL c d y) (q : x.toInt < y.toInt) (hn : d ≤ hi ∧ (lo ≤ c ∨ lo ≤ a + 1)) : rgL lo hi y := by have := h1.1; have := h1.2; have := h2.1; have := h2.2; constructor <;> omega
theorem tL_lex {a b c d : Int} (lo hi : Int) {x y : Int64} (h1 : rgL a b x) (h2 : rgL c d y) (q : x.toInt ≤ y.toInt) (hn : lo ≤ a ∧ (b ≤ hi ∨ d ≤ hi)) : rgL lo hi x := by have := h1.1; have := h1.2; have := h2.1; have := h2.2; constructor <;> omega
theorem tL_ley {a b c d : Int} (lo hi : Int) {x y : Int64} (h1 : rgL a b x) (h2 : rgL c d y) (q : x.toInt ≤ y.toInt) (hn : d ≤ hi ∧ (lo ≤ c ∨ lo ≤ a)) : rgL lo hi y := by have := h1.1; have := h1.2; have := h2.1; have := h2.2; constructor <;> omega
theorem tL_eqx {a b c d : Int} (lo hi : Int) {x y : Int64} (h1 : rgL a b x) (h2 : rgL c d y) (q : x.toInt = y.toInt) (hn : (lo ≤ a ∨ lo ≤ c) ∧ (b ≤ hi ∨ d ≤ hi)) : rgL lo hi x := by have := h1.1; have := h1.2; have := h2.1; have := h2.2; constructor <;> omega
theorem tL_eqy {a b c d : Int} (lo hi : Int) {x y : Int64} (h1 : rgL a b x) (h2 : rgL c d y) (q : x.toInt = y.toInt) (hn : (lo ≤ a ∨ lo ≤ c) ∧ (b ≤ hi ∨ d ≤ hi)) : rgL lo hi y := by have := h1.1; have := h1.2; have := h2.1; have := h2.2; constructor <;> omega
/-! arithmetic without overflow -/
theorem bm32 {n : Int} (h : -2147483648 ≤ n ∧ n ≤ 2147483647) : n.bmod 4294967296 = n := by rw [Int.bmod_def]; omega
theorem bm64 {n : Int} (h : -9223372036854775808 ≤ n ∧ n ≤ 9223372036854775807) : n.bmod 18446744073709551616 = n := by rw [Int.bmod_def]; omega
theorem e_add {x y : Int32} (h : -2147483648 ≤ x.toInt + y.toInt ∧ x.toInt + y.toInt ≤ 2147483647) : (x + y).toInt = x.toInt + y.toInt := by
  rw [Int32.toInt_add]; exact bm32 h
theorem e_sub {x y : Int32} (h : -2147483648 ≤ x.toInt - y.toInt ∧ x.toInt - y.toInt ≤ 2147483647) : (x - y).toInt = x.toInt - y.toInt := by
  rw [Int32.toInt_sub]; exact bm32 h
theorem e_mul {x y : Int32} (h : -2147483648 ≤ x.toInt * y.toInt ∧ x.toInt * y.toInt ≤ 2147483647) : (x * y).toInt = x.toInt * y.toInt := by
  rw [Int32.toInt_mul]; exact bm32 h
theorem eL_add {x y : Int64} (h : -9223372036854775808 ≤ x.toInt + y.toInt ∧ x.toInt + y.toInt ≤ 9223372036854775807) : (x + y).toInt = x.toInt + y.toInt := by
  rw [Int64.toInt_add]; exact bm64 h
theorem eL_sub {x y : Int64} (h : -9223372036854775808 ≤ x.toInt - y.toInt ∧ x.toInt - y.toInt ≤ 9223372036854775807) : (x - y).toInt = x.toInt - y.toInt := by
  rw [Int64.toInt_sub]; exact bm64 h
theorem rg_add {a b c d : Int} (lo hi : Int) {x y z : Int32} (ez : z = x + y) (h1 : rg a b x) (h2 : rg c d y) (hn : lo ≤ a + c ∧ b + d ≤ hi ∧ -2147483648 ≤ a + c ∧ b + d ≤ 2147483647) : rg lo hi z ∧ z.toInt = x.toInt + y.toInt := by
  have := h1.1; have := h1.2; have := h2.1; have := h2.2
  have e := e_add (x := x) (y := y) (by omega)
  rw [ez]
  exact ⟨⟨by omega, by omega⟩, e⟩
theorem rg_sub {a b c d : Int} (lo hi : Int) {x y z : Int32} (ez : z = x - y) (h1 : rg a b x) (h2 : rg c d y) (hn : lo ≤ a - d ∧ b - c ≤ hi ∧ -2147483648 ≤ a - d ∧ b - c ≤ 2147483647) : rg lo hi z ∧ z.toInt = x.toInt - y.toInt := by
  have := h1.1; have := h1.2; have := h2.1; have := h2.2
  have e := e_sub (x := x) (y := y) (by omega)
  rw [ez]
  exact ⟨⟨by omega, by omega⟩, e⟩
theorem rgL_add {a b c d : Int} (lo hi : Int) {x y z : Int64} (ez : z = x + y) (h1 : rgL a b x) (h2 : rgL c d y) (hn : lo ≤ a + c ∧ b + d ≤ hi ∧ -9223372036854775808 ≤ a + c ∧ b + d ≤ 9223372036854775807) : rgL lo hi z ∧ z.toInt = x.toInt + y.toInt := by
  have := h1.1; have := h1.2; have := h2.1; have := h2.2
  have e := eL_add (x := x) (y := y) (by omega)
  rw [ez]
  exact ⟨⟨by omega, by omega⟩, e⟩
theorem rgL_sub {a b c d : Int} (lo hi : Int) {x y z : Int64} (ez : z = x - y) (h1 : rgL a b x) (h2 : rgL c d y) (hn : lo ≤ a - d ∧ b - c ≤ hi ∧ -9223372036854775808 ≤ a - d ∧ b - c ≤ 9223372036854775807) : rgL lo hi z ∧ z.toInt = x.toInt - y.toInt := by
  have := h1.1; have := h1.2; have := h2.1; have := h2.2
  have e := eL_sub (x := x) (y := y) (by omega)
  rw [ez]
  exact ⟨⟨by omega, by omega⟩, e⟩
theorem mulb {a b c d u w : Int} (h1 : a ≤ u ∧ u ≤ b) (h2 : c ≤ w ∧ w ≤ d) (ha : 0 ≤ a) (hc : 0 ≤ c) : a * c ≤ u * w ∧ u * w ≤ b * d :=
  ⟨Int.mul_le_mul h1.1 h2.1 hc (by omega), Int.mul_le_mul h1.2 h2.2 (by omega) (by omega)⟩
theorem rg_mul {a b c d : Int} (lo hi : Int) {x y z : Int32} (ez : z = x * y) (h1 : rg a b x) (h2 : rg c d y) (hn : 0 ≤ a ∧ 0 ≤ c ∧ lo ≤ a * c ∧ b * d ≤ hi ∧ b * d ≤ 2147483647) : rg lo hi z ∧ z.toInt = x.toInt * y.toInt := by
  obtain ⟨n1, n2, n3, n4, n5⟩ := hn
  have q := mulb h1 h2 n1 n2
  have q0 : 0 ≤ a * c := Int.mul_nonneg n1 n2
  have e := e_mul (x := x) (y := y) ⟨by omega, by omega⟩
  rw [ez]
  exact ⟨⟨by omega, by omega⟩, e⟩
theorem rg_i2l {a b : Int} {x : Int32} {z : Int64} (ez : x.toInt64 = z) (h : rg a b x) : rgL a b z ∧ z.toInt = x.toInt := by
  have e : z.toInt = x.toInt := by rw [← ez]; exact Int32.toInt_toInt64 x
  exact ⟨⟨by rw [e]; exact h.1, by rw [e]; exact h.2⟩, e⟩
theorem v_in {a b : Int} {x : Int32} {n : Nat} (h : rg a b x) (hn : 0 ≤ a ∧ b < (n : Int)) : vp_in x n := vp_in_iff.mpr ⟨by have := h.1; omega, by have := h.2; omega⟩
theorem v_lt {x : Int32} {n : Nat} (h : vp_in x n) : x.toNatClampNeg < n := Nat.not_le.mp fun q => h (Or.inr q)
theorem cl_int {a b : Int} {x : Int32} (h : rg a b x) (hn : 0 ≤ a) : (x.toNatClampNeg : Int) = x.toInt := by
  have h0 := h.1
  obtain ⟨j, hj, e⟩ := nI_of (x := x) (fun q => by have := i_lt q; simp at this; omega)
  subst e
  rw [nI_clamp hj, nI_toInt hj]
theorem m_up {HI K : Int} {n : Nat} {a b : Int} {x y : Int32} (e : y.toInt = x.toInt + K) (hy : rg a b y) (hn : 0 < K ∧ b ≤ HI) (hm : (HI - x.toInt).toNat < n + 1) : (HI - y.toInt).toNat < n := by
  have := hy.2; omega
theorem m_dn {LO K : Int} {n : Nat} {a b : Int} {x y : Int32} (e : y.toInt = x.toInt + K) (hy : rg a b y) (hn : K < 0 ∧ LO ≤ a) (hm : (x.toInt - LO).toNat < n + 1) : (y.toInt - LO).toNat < n := by
  have := hy.1; omega
/-! the typed heap -/
def ln (j : Nat) : Nat := match tb j with
  | .inl (_, n, _) => n
  | .inr (_, ds) => ds.length
def Rg (T : Nat → Nat → Int × Int) (i : Nat → Nat → Int32) : Prop := ∀ j k, k < ln j → rg (T j k).1 (T j k).2 (i j k)
def rT (t : List ((Int × Int) ⊕ List (Int × Int))) (j k : Nat) : Int × Int := match t.getD j (.inl (-2147483648, 2147483647)) with
  | .inl p => p
  | .inr l => l.getD k (-2147483648, 2147483647)
theorem Rg_at {T : Nat → Nat → Int × Int} {i : Nat → Nat → Int32} (hR : Rg T i) (j k : Nat) (lo hi : Int) (hk : k < ln j) (ht : T j k = (lo, hi)) : rg lo hi (i j k) := by
  have := hR j k hk
  rw [ht] at this
  exact this
theorem Rg_put {T : Nat → Nat → Int × Int} {i i1 : Nat → Nat → Int32} {j k : Nat} {v : Int32} {a b : Int} (hR : Rg T i) (e : i1 = up2 i j k v) (lo hi : Int) (ht : T j k = (lo, hi)) (hv : rg a b v) (hn : lo ≤ a ∧ b ≤ hi) : Rg T i1 := by
  intro q r hr
  rw [e]
  by_cases hq : q = j
  · by_cases h2 : r = k
    · rw [hq, h2, up2_at, ht]
      exact rg_w hv hn
    · rw [up2_k h2]
      exact hR q r hr
  · rw [up2_j hq]
    exact hR q r hr
theorem z_j {i i1 : Nat → Nat → Int32} {j k a b : Nat} {v x : Int32} (e : i1 = up2 i j k v) (z : i a b = x) (hne : a ≠ j) : i1 a b = x := by rw [e, up2_j hne]; exact z
theorem z_k {i i1 : Nat → Nat → Int32} {j k a b : Nat} {v x : Int32} (e : i1 = up2 i j k v) (z : i a b = x) (hne : b ≠ k) : i1 a b = x := by rw [e, up2_k hne]; exact z
theorem z_s {i i1 : Nat → Nat → Int32} {j k : Nat} {v : Int32} (e : i1 = up2 i j k v) : i1 j k = v := by rw [e, up2_at]
/-! arithmetic rows that name what comes out -/
section RowsQ
variable {p : Program} {l : Launch} {e : Env} {R : Room} {s : State} {m : MethodId} {args : Array Value} {below : List Frame} {meth : Method} {c : Code} {H : Heap} {locs : List Loc} {cells slots : Nat} {Q : State → Prop} {cc : ByteArray} {pc : Nat} {ls : Array Slot} {rest : List Value}
theorem q_iadd {x y : Int32} (hx : p.tables.exec = Jvm.exec) (hb : c.code = cc) (d : decode cc pc = .ok (.iadd, 1)) (k : ∀ z : Int32, z = x + y → W p l e R s m args below meth c H locs cells slots Q (F0 m (pc + 1) ls (.int z :: rest))) : W p l e R s m args below meth c H locs cells slots Q (F0 m pc ls (.int y :: .int x :: rest)) := lv_iadd hx hb d (k _ rfl)
theorem q_isub {x y : Int32} (hx : p.tables.exec = Jvm.exec) (hb : c.code = cc) (d : decode cc pc = .ok (.isub, 1)) (k : ∀ z : Int32, z = x - y → W p l e R s m args below meth c H locs cells slots Q (F0 m (pc + 1) ls (.int z :: rest))) : W p l e R s m args below meth c H locs cells slots Q (F0 m pc ls (.int y :: .int x :: rest)) := lv_isub hx hb d (k _ rfl)
theorem q_imul {x y : Int32} (hx : p.tables.exec = Jvm.exec) (hb : c.code = cc) (d : decode cc pc = .ok (.imul, 1)) (k : ∀ z : Int32, z = x * y → W p l e R s m args below meth c H locs cells slots Q (F0 m (pc + 1) ls (.int z :: rest))) : W p l e R s m args below meth c H locs cells slots Q (F0 m pc ls (.int y :: .int x :: rest)) := lv_imul hx hb d (k _ rfl)
theorem q_iand {x y : Int32} (hx : p.tables.exec = Jvm.exec) (hb : c.code = cc) (d : decode cc pc = .ok (.iand, 1)) (k : ∀ z : Int32, z = x &&& y → W p l e R s m args below meth c H locs cells slots Q (F0 m (pc + 1) ls (.int z :: rest))) : W p l e R s m args below meth c H locs cells slots Q (F0 m pc ls (.int y :: .int x :: rest)) := lv_iand hx hb d (k _ rfl)
theorem q_ior {x y : Int32} (hx : p.tables.exec = Jvm.exec) (hb : c.code = cc) (d : decode cc pc = .ok (.ior, 1)) (k : ∀ z : Int32, z = x ||| y → W p l e R s m args below meth c H locs cells slots Q (F0 m (pc + 1) ls (.int z :: rest))) : W p l e R s m args below meth c H locs cells slots Q (F0 m pc ls (.int y :: .int x :: rest)) := lv_ior hx hb d (k _ rfl)
theorem q_ixor {x y : Int32} (hx : p.tables.exec = Jvm.exec) (hb : c.code = cc) (d : decode cc pc = .ok (.ixor, 1)) (k : ∀ z : Int32, z = x ^^^ y → W p l e R s m args below meth c H locs cells slots Q (F0 m (pc + 1) ls (.int z :: rest))) : W p l e R s m args below meth c H locs cells slots Q (F0 m pc ls (.int y :: .int x :: rest)) := lv_ixor hx hb d (k _ rfl)
theorem q_ishl {x y : Int32} (hx : p.tables.exec = Jvm.exec) (hb : c.code = cc) (d : decode cc pc = .ok (.ishl, 1)) (k : ∀ z : Int32, z = x <<< (y &&& 31) → W p l e R s m args below meth c H locs cells slots Q (F0 m (pc + 1) ls (.int z :: rest))) : W p l e R s m args below meth c H locs cells slots Q (F0 m pc ls (.int y :: .int x :: rest)) := lv_ishl hx hb d (k _ rfl)
theorem q_ishr {x y : Int32} (hx : p.tables.exec = Jvm.exec) (hb : c.code = cc) (d : decode cc pc = .ok (.ishr, 1)) (k : ∀ z : Int32, z = x >>> (y &&& 31) → W p l e R s m args below meth c H locs cells slots Q (F0 m (pc + 1) ls (.int z :: rest))) : W p l e R s m args below meth c H locs cells slots Q (F0 m pc ls (.int y :: .int x :: rest)) := lv_ishr hx hb d (k _ rfl)
theorem q_ladd {x y : Int64} (hx : p.tables.exec = Jvm.exec) (hb : c.code = cc) (d : decode cc pc = .ok (.ladd, 1)) (k : ∀ z : Int64, z = x + y → W p l e R s m args below meth c H locs cells slots Q (F0 m (pc + 1) ls (.long z :: rest))) : W p l e R s m args below meth c H locs cells slots Q (F0 m pc ls (.long y :: .long x :: rest)) := lv_ladd hx hb d (k _ rfl)
theorem q_lsub {x y : Int64} (hx : p.tables.exec = Jvm.exec) (hb : c.code = cc) (d : decode cc pc = .ok (.lsub, 1)) (k : ∀ z : Int64, z = x - y → W p l e R s m args below meth c H locs cells slots Q (F0 m (pc + 1) ls (.long z :: rest))) : W p l e R s m args below meth c H locs cells slots Q (F0 m pc ls (.long y :: .long x :: rest)) := lv_lsub hx hb d (k _ rfl)
theorem q_lmul {x y : Int64} (hx : p.tables.exec = Jvm.exec) (hb : c.code = cc) (d : decode cc pc = .ok (.lmul, 1)) (k : ∀ z : Int64, z = x * y → W p l e R s m args below meth c H locs cells slots Q (F0 m (pc + 1) ls (.long z :: rest))) : W p l e R s m args below meth c H locs cells slots Q (F0 m pc ls (.long y :: .long x :: rest)) := lv_lmul hx hb d (k _ rfl)
theorem q_i2l {x : Int32} (hx : p.tables.exec = Jvm.exec) (hb : c.code = cc) (d : decode cc pc = .ok (.i2l, 1)) (k : ∀ z : Int64, x.toInt64 = z → W p l e R s m args below meth c H locs cells slots Q (F0 m (pc + 1) ls (.long z :: rest))) : W p l e R s m args below meth c H locs cells slots Q (F0 m pc ls (.int x :: rest)) := lv_i2l hx hb d rfl (k _ rfl)
theorem q_l2i {x : Int64} (hx : p.tables.exec = Jvm.exec) (hb : c.code = cc) (d : decode cc pc = .ok (.l2i, 1)) (k : ∀ z : Int32, x.toInt32 = z → W p l e R s m args below meth c H locs cells slots Q (F0 m (pc + 1) ls (.int z :: rest))) : W p l e R s m args below meth c H locs cells slots Q (F0 m pc ls (.long x :: rest)) := lv_l2i hx hb d rfl (k _ rfl)
theorem q_i2b {x : Int32} (hx : p.tables.exec = Jvm.exec) (hb : c.code = cc) (d : decode cc pc = .ok (.i2b, 1)) (k : ∀ z : Int32, x.toInt8.toInt32 = z → W p l e R s m args below meth c H locs cells slots Q (F0 m (pc + 1) ls (.int z :: rest))) : W p l e R s m args below meth c H locs cells slots Q (F0 m pc ls (.int x :: rest)) := lv_i2b hx hb d rfl (k _ rfl)
end RowsQ
