/-! ints between two numbers -/
def rgL (lo hi : Int) (x : Int64) : Prop := lo ≤ x.toInt ∧ x.toInt ≤ hi
theorem rg_k {lo hi : Int} {x : Int32} (h : (decide (lo ≤ x.toInt) && decide (x.toInt ≤ hi)) = true) : rg lo hi x := by
  simp only [Bool.and_eq_true, decide_eq_true_eq] at h; exact h
theorem rgL_k {lo hi : Int} {x : Int64} (h : (decide (lo ≤ x.toInt) && decide (x.toInt ≤ hi)) = true) : rgL lo hi x := by
  simp only [Bool.and_eq_true, decide_eq_true_eq] at h; exact h
theorem rg_top (x : Int32) : rg (-2147483648) 2147483647 x := ⟨by have := x.le_toInt; simpa using this, by have := x.toInt_lt; simp at this; omega⟩
theorem rgL_top (x : Int64) : rgL (-9223372036854775808) 9223372036854775807 x := ⟨by have := x.le_toInt; simpa using this, by have := x.toInt_lt; simp at this; omega⟩
theorem rg_w {a b lo hi : Int} {x : Int32} (h : rg a b x) (h1 : lo ≤ a ∧ b ≤ hi) : rg lo hi x := ⟨by have := h.1; omega, by have := h.2; omega⟩
theorem rgL_w {a b lo hi : Int} {x : Int64} (h : rgL a b x) (h1 : lo ≤ a ∧ b ≤ hi) : rgL lo hi x := ⟨by have := h.1; omega, by have := h.2; omega⟩
theorem i_lt {x y : Int32} (h : x < y) : x.toInt < y.toInt := Int32.lt_iff_toInt_lt.mp h
theorem i_le {x y : Int32} (h : x ≤ y) : x.toInt ≤ y.toInt := Int32.le_iff_toInt_le.mp h
theorem i_nlt {x y : Int32} (h : ¬ x < y) : y.toInt ≤ x.toInt := by rw [Int32.lt_iff_toInt_lt] at h; omega
theorem i_nle {x y : Int32} (h : ¬ x ≤ y) : y.toInt < x.toInt := by rw [Int32.le_iff_toInt_le] at h; omega
theorem i_eq {x y : Int32} (h : x = y) : x.toInt = y.toInt := by rw [h]
theorem i_ne {x y : Int32} (h : ¬ x = y) : ¬ x.toInt = y.toInt := fun q => h (Int32.toInt_inj.mp q)
theorem l_lt {x y : Int64} (h : x < y) : x.toInt < y.toInt := Int64.lt_iff_toInt_lt.mp h
theorem l_le {x y : Int64} (h : x ≤ y) : x.toInt ≤ y.toInt := Int64.le_iff_toInt_le.mp h
theorem l_nlt {x y : Int64} (h : ¬ x < y) : y.toInt ≤ x.toInt := by rw [Int64.lt_iff_toInt_lt] at h; omega
theorem l_nle {x y : Int64} (h : ¬ x ≤ y) : y.toInt < x.toInt := by rw [Int64.le_iff_toInt_le] at h; omega
theorem l_eq {x y : Int64} (h : x = y) : x.toInt = y.toInt := by rw [h]
theorem l_ne {x y : Int64} (h : ¬ x = y) : ¬ x.toInt = y.toInt := fun q => h (Int64.toInt_inj.mp q)
/-- the answer of lcmp against 0 -/
theorem lg_val (x y : Int64) : (y.toInt < x.toInt ∧ lg_cmp x y = 1) ∨ (x.toInt = y.toInt ∧ lg_cmp x y = 0) ∨ (x.toInt < y.toInt ∧ lg_cmp x y = -1) := by
  unfold lg_cmp
  by_cases h1 : x > y
  · exact Or.inl ⟨Int64.lt_iff_toInt_lt.mp h1, by simp [h1]⟩
  · by_cases h2 : x = y
    · exact Or.inr (Or.inl ⟨by rw [h2], by simp [h2]⟩)
    · have h3 : ¬ y < x := h1
      rw [Int64.lt_iff_toInt_lt] at h3
      exact Or.inr (Or.inr ⟨by have := l_ne h2; omega, by simp [h1, h2]⟩)
theorem c_lt {x y : Int64} (h : lg_cmp x y < 0) : x.toInt < y.toInt := by
  rcases lg_val x y with ⟨a, b⟩ | ⟨a, b⟩ | ⟨a, b⟩
  · rw [b] at h; exact absurd h (by decide)
  · rw [b] at h; exact absurd h (by decide)
  · exact a
theorem c_nlt {x y : Int64} (h : ¬ lg_cmp x y < 0) : y.toInt ≤ x.toInt := by
  rcases lg_val x y with ⟨a, b⟩ | ⟨a, b⟩ | ⟨a, b⟩
  · omega
  · omega
  · rw [b] at h; exact absurd (by decide) h
theorem c_ge {x y : Int64} (h : 0 ≤ lg_cmp x y) : y.toInt ≤ x.toInt := by
  rcases lg_val x y with ⟨a, b⟩ | ⟨a, b⟩ | ⟨a, b⟩
  · omega
  · omega
  · rw [b] at h; exact absurd h (by decide)
theorem c_nge {x y : Int64} (h : ¬ 0 ≤ lg_cmp x y) : x.toInt < y.toInt := by
  rcases lg_val x y with ⟨a, b⟩ | ⟨a, b⟩ | ⟨a, b⟩
  · rw [b] at h; exact absurd (by decide) h
  · rw [b] at h; exact absurd (by decide) h
  · exact a
theorem c_gt {x y : Int64} (h : 0 < lg_cmp x y) : y.toInt < x.toInt := by
  rcases lg_val x y with ⟨a, b⟩ | ⟨a, b⟩ | ⟨a, b⟩
  · exact a
  · rw [b] at h; exact absurd h (by decide)
  · rw [b] at h; exact absurd h (by decide)
theorem c_ngt {x y : Int64} (h : ¬ 0 < lg_cmp x y) : x.toInt ≤ y.toInt := by
  rcases lg_val x y with ⟨a, b⟩ | ⟨a, b⟩ | ⟨a, b⟩
  · rw [b] at h; exact absurd (by decide) h
  · omega
  · omega
theorem c_le {x y : Int64} (h : lg_cmp x y ≤ 0) : x.toInt ≤ y.toInt := by
  rcases lg_val x y with ⟨a, b⟩ | ⟨a, b⟩ | ⟨a, b⟩
  · rw [b] at h; exact absurd h (by decide)
  · omega
  · omega
theorem c_nle {x y : Int64} (h : ¬ lg_cmp x y ≤ 0) : y.toInt < x.toInt := by
  rcases lg_val x y with ⟨a, b⟩ | ⟨a, b⟩ | ⟨a, b⟩
  · exact a
  · rw [b] at h; exact absurd (by decide) h
  · rw [b] at h; exact absurd (by decide) h
theorem c_eq {x y : Int64} (h : lg_cmp x y = 0) : x.toInt = y.toInt := by
  rcases lg_val x y with ⟨a, b⟩ | ⟨a, b⟩ | ⟨a, b⟩
  · rw [b] at h; exact absurd h (by decide)
  · exact a
  · rw [b] at h; exact absurd h (by decide)
theorem c_ne {x y : Int64} (h : ¬ lg_cmp x y = 0) : ¬ x.toInt = y.toInt := by
  rcases lg_val x y with ⟨a, b⟩ | ⟨a, b⟩ | ⟨a, b⟩
  · omega
  · rw [b] at h; exact absurd rfl h
  · omega
theorem rg_lcmp (x y : Int64) : rg (-1) 1 (lg_cmp x y) := by
  rcases lg_val x y with ⟨a, b⟩ | ⟨a, b⟩ | ⟨a, b⟩ <;> rw [b] <;> exact rg_k (by decide)
/-! narrower by a comparison of their numbers; u = x.toInt, w = y.toInt -/
theorem n_hi {a b hi : Int} {x : Int32} (h : rg a b x) {w : Int} (q : x.toInt ≤ w) (hw : w ≤ hi) : rg a hi x := ⟨h.1, by omega⟩
theorem n_lo {a b lo : Int} {x : Int32} (h : rg a b x) {w : Int} (q : w ≤ x.toInt) (hw : lo ≤ w) : rg lo b x := ⟨by omega, h.2⟩
theorem nL_hi {a b hi : Int} {x : Int64} (h : rgL a b x) {w : Int} (q : x.toInt ≤ w) (hw : w ≤ hi) : rgL a hi x := ⟨h.1, by omega⟩
theorem nL_lo {a b lo : Int} {x : Int64} (h : rgL a b x) {w : Int} (q : w ≤ x.toInt) (hw : lo ≤ w) : rgL lo b x := ⟨by omega, h.2⟩
theorem x_lt {a b c d u w : Int} (h1 : a ≤ u ∧ u ≤ b) (h2 : c ≤ w ∧ w ≤ d) (q : u < w) (hn : d ≤ a) : False := by omega
theorem x_le {a b c d u w : Int} (h1 : a ≤ u ∧ u ≤ b) (h2 : c ≤ w ∧ w ≤ d) (q : u ≤ w) (hn : d < a) : False := by omega
theorem x_eq {a b c d u w : Int} (h1 : a ≤ u ∧ u ≤ b) (h2 : c ≤ w ∧ w ≤ d) (q : u = w) (hn : d < a ∨ b < c) : False := by omega
theorem x_ne {a b c d u w : Int} (h1 : a ≤ u ∧ u ≤ b) (h2 : c ≤ w ∧ w ≤ d) (q : ¬ u = w) (hn : a = b ∧ c = d ∧ a = c) : False := by omega
/-- x < y: both bounds; the numbers as they come out -/
theorem t_ltx {a b c d : Int} (lo hi : Int) {x y : Int32} (h1 : rg a b x) (h2 : rg c d y) (q : x.toInt < y.toInt) (hn : lo ≤ a ∧ (b ≤ hi ∨ d - 1 ≤ hi)) : rg lo hi x := by have := h1.1; have := h1.2; have := h2.1; have := h2.2; constructor <;> omega
theorem t_lty {a b c d : Int} (lo hi : Int) {x y : Int32} (h1 : rg a b x) (h2 : rg c d y) (q : x.toInt < y.toInt) (hn : d ≤ hi ∧ (lo ≤ c ∨ lo ≤ a + 1)) : rg lo hi y := by have := h1.1; have := h1.2; have := h2.1; have := h2.2; constructor <;> omega
theorem t_lex {a b c d : Int} (lo hi : Int) {x y : Int32} (h1 : rg a b x) (h2 : rg c d y) (q : x.toInt ≤ y.toInt) (hn : lo ≤ a ∧ (b ≤ hi ∨ d ≤ hi)) : rg lo hi x := by have := h1.1; have := h1.2; have := h2.1; have := h2.2; constructor <;> omega
theorem t_ley {a b c d : Int} (lo hi : Int) {x y : Int32} (h1 : rg a b x) (h2 : rg c d y) (q : x.toInt ≤ y.toInt) (hn : d ≤ hi ∧ (lo ≤ c ∨ lo ≤ a)) : rg lo hi y := by have := h1.1; have := h1.2; have := h2.1; have := h2.2; constructor <;> omega
theorem t_eqx {a b c d : Int} (lo hi : Int) {x y : Int32} (h1 : rg a b x) (h2 : rg c d y) (q : x.toInt = y.toInt) (hn : (lo ≤ a ∨ lo ≤ c) ∧ (b ≤ hi ∨ d ≤ hi)) : rg lo hi x := by have := h1.1; have := h1.2; have := h2.1; have := h2.2; constructor <;> omega
theorem t_eqy {a b c d : Int} (lo hi : Int) {x y : Int32} (h1 : rg a b x) (h2 : rg c d y) (q : x.toInt = y.toInt) (hn : (lo ≤ a ∨ lo ≤ c) ∧ (b ≤ hi ∨ d ≤ hi)) : rg lo hi y := by have := h1.1; have := h1.2; have := h2.1; have := h2.2; constructor <;> omega
/-- x ≠ y, y one number at x's bound -/
theorem t_nelo {a b c d : Int} (lo : Int) {x y : Int32} (h1 : rg a b x) (h2 : rg c d y) (q : ¬ x.toInt = y.toInt) (hn : c = d ∧ c = a ∧ lo = a + 1) : rg lo b x := by have := h1.1; have := h1.2; have := h2.1; have := h2.2; constructor <;> omega
theorem t_nehi {a b c d : Int} (hi : Int) {x y : Int32} (h1 : rg a b x) (h2 : rg c d y) (q : ¬ x.toInt = y.toInt) (hn : c = d ∧ c = b ∧ hi = b - 1) : rg a hi x := by have := h1.1; have := h1.2; have := h2.1; have := h2.2; constructor <;> omega
theorem tL_ltx {a b c d : Int} (lo hi : Int) {x y : Int64} (h1 : rgL a b x) (h2 : rgL c d y) (q : x.toInt < y.toInt) (hn : lo ≤ a ∧ (b ≤ hi ∨ d - 1 ≤ hi)) : rgL lo hi x := by have := h1.1; have := h1.2; have := h2.1; have := h2.2; constructor <;> omega
theorem tL_lty {a b c d : Int} (lo hi : Int) {x y : Int64} (h1 : rgL a b x) (h2 : rgL c d y) (q : x.toInt < y.toInt) (hn : d ≤ hi ∧ (lo ≤ c ∨ lo ≤ a + 1)) : rgL lo hi y := by have := h1.1; have := h1.2; have := h2.1; have := h2.2; constructor <;> omega
theorem tL_lex {a b c d : Int} (lo hi : Int) {x y : Int64} (h1 : rgL a b x) (h2 : rgL c d y) (q : x.toInt ≤ y.toInt) (hn : lo ≤ a ∧ (b ≤ hi ∨ d ≤ hi)) : rgL lo hi x := by have := h1.1; have := h1.2; have := h2.1; have := h2.2; constructor <;> omega
theorem tL_ley {a b c d : Int} (lo hi : Int) {x y : Int64} (h1 : rgL a b x) (h2 : rgL c d y) (q : x.toInt ≤ y.toInt) (hn : d ≤ hi ∧ (lo ≤ c ∨ lo ≤ a)) : rgL lo hi y := by have := h1.1; have := h1.2; have := h2.1; have := h2.2; constructor <;> omega
theorem tL_eqx {a b c d : Int} (lo hi : Int) {x y : Int64} (h1 : rgL a b x) (h2 : rgL c d y) (q : x.toInt = y.toInt) (hn : (lo ≤ a ∨ lo ≤ c) ∧ (b ≤ hi ∨ d ≤ hi)) : rgL lo hi x := by have := h1.1; have := h1.2; have := h2.1; have := h2.2; constructor <;> omega
theorem tL_eqy {a b c d : Int} (lo hi : Int) {x y : Int64} (h1 : rgL a b x) (h2 : rgL c d y) (q : x.toInt = y.toInt) (hn : (lo ≤ a ∨ lo ≤ c) ∧ (b ≤ hi ∨ d ≤ hi)) : rgL lo hi y := by have := h1.1; have := h1.2; have := h2.1; have := h2.2; constructor <;> omega
/-! arithmetic without overflow -/
theorem bm32 {n : Int} (h : -2147483648 ≤ n ∧ n ≤ 2147483647) : n.bmod 4294967296 = n := by rw [Int.bmod_def]; omega
theorem bm64 {n : Int} (h : -9223372036854775808 ≤ n ∧ n ≤ 9223372036854775807) : n.bmod 18446744073709551616 = n := by rw [Int.bmod_def]; omega
theorem e_add {x y : Int32} (h : -2147483648 ≤ x.toInt + y.toInt ∧ x.toInt + y.toInt ≤ 2147483647) : (x + y).toInt = x.toInt + y.toInt := by
  rw [Int32.toInt_add]; exact bm32 h
theorem e_sub {x y : Int32} (h : -2147483648 ≤ x.toInt - y.toInt ∧ x.toInt - y.toInt ≤ 2147483647) : (x - y).toInt = x.toInt - y.toInt := by
  rw [Int32.toInt_sub]; exact bm32 h
theorem e_mul {x y : Int32} (h : -2147483648 ≤ x.toInt * y.toInt ∧ x.toInt * y.toInt ≤ 2147483647) : (x * y).toInt = x.toInt * y.toInt := by
  rw [Int32.toInt_mul]; exact bm32 h
theorem eL_add {x y : Int64} (h : -9223372036854775808 ≤ x.toInt + y.toInt ∧ x.toInt + y.toInt ≤ 9223372036854775807) : (x + y).toInt = x.toInt + y.toInt := by
  rw [Int64.toInt_add]; exact bm64 h
theorem eL_sub {x y : Int64} (h : -9223372036854775808 ≤ x.toInt - y.toInt ∧ x.toInt - y.toInt ≤ 9223372036854775807) : (x - y).toInt = x.toInt - y.toInt := by
  rw [Int64.toInt_sub]; exact bm64 h
theorem rg_add {a b c d : Int} (lo hi : Int) {x y z : Int32} (ez : z = x + y) (h1 : rg a b x) (h2 : rg c d y) (hn : lo ≤ a + c ∧ b + d ≤ hi ∧ -2147483648 ≤ a + c ∧ b + d ≤ 2147483647) : rg lo hi z ∧ z.toInt = x.toInt + y.toInt := by
  have := h1.1; have := h1.2; have := h2.1; have := h2.2
  have e := e_add (x := x) (y := y) (by omega)
  rw [ez]
  exact ⟨⟨by omega, by omega⟩, e⟩
theorem rg_sub {a b c d : Int} (lo hi : Int) {x y z : Int32} (ez : z = x - y) (h1 : rg a b x) (h2 : rg c d y) (hn : lo ≤ a - d ∧ b - c ≤ hi ∧ -2147483648 ≤ a - d ∧ b - c ≤ 2147483647) : rg lo hi z ∧ z.toInt = x.toInt - y.toInt := by
  have := h1.1; have := h1.2; have := h2.1; have := h2.2
  have e := e_sub (x := x) (y := y) (by omega)
  rw [ez]
  exact ⟨⟨by omega, by omega⟩, e⟩
theorem rgL_add {a b c d : Int} (lo hi : Int) {x y z : Int64} (ez : z = x + y) (h1 : rgL a b x) (h2 : rgL c d y) (hn : lo ≤ a + c ∧ b + d ≤ hi ∧ -9223372036854775808 ≤ a + c ∧ b + d ≤ 9223372036854775807) : rgL lo hi z ∧ z.toInt = x.toInt + y.toInt := by
  have := h1.1; have := h1.2; have := h2.1; have := h2.2
  have e := eL_add (x := x) (y := y) (by omega)
  rw [ez]
  exact ⟨⟨by omega, by omega⟩, e⟩
theorem rgL_sub {a b c d : Int} (lo hi : Int) {x y z : Int64} (ez : z = x - y) (h1 : rgL a b x) (h2 : rgL c d y) (hn : lo ≤ a - d ∧ b - c ≤ hi ∧ -9223372036854775808 ≤ a - d ∧ b - c ≤ 9223372036854775807) : rgL lo hi z ∧ z.toInt = x.toInt - y.toInt := by
  have := h1.1; have := h1.2; have := h2.1; have := h2.2
  have e := eL_sub (x := x) (y := y) (by omega)
  rw [ez]
  exact ⟨⟨by omega, by omega⟩, e⟩
theorem mulb {a b c d u w : Int} (h1 : a ≤ u ∧ u ≤ b) (h2 : c ≤ w ∧ w ≤ d) (ha : 0 ≤ a) (hc : 0 ≤ c) : a * c ≤ u * w ∧ u * w ≤ b * d :=
  ⟨Int.mul_le_mul h1.1 h2.1 hc (by omega), Int.mul_le_mul h1.2 h2.2 (by omega) (by omega)⟩
theorem rg_mul {a b c d : Int} (lo hi : Int) {x y z : Int32} (ez : z = x * y) (h1 : rg a b x) (h2 : rg c d y) (hn : 0 ≤ a ∧ 0 ≤ c ∧ lo ≤ a * c ∧ b * d ≤ hi ∧ b * d ≤ 2147483647) : rg lo hi z ∧ z.toInt = x.toInt * y.toInt := by
  obtain ⟨n1, n2, n3, n4, n5⟩ := hn
  have q := mulb h1 h2 n1 n2
  have q0 : 0 ≤ a * c := Int.mul_nonneg n1 n2
  have e := e_mul (x := x) (y := y) ⟨by omega, by omega⟩
  rw [ez]
  exact ⟨⟨by omega, by omega⟩, e⟩
theorem rg_i2l {a b : Int} {x : Int32} {z : Int64} (ez : x.toInt64 = z) (h : rg a b x) : rgL a b z ∧ z.toInt = x.toInt := by
  have e : z.toInt = x.toInt := by rw [← ez]; exact Int32.toInt_toInt64 x
  exact ⟨⟨by rw [e]; exact h.1, by rw [e]; exact h.2⟩, e⟩
theorem v_in {a b : Int} {x : Int32} {n : Nat} (h : rg a b x) (hn : 0 ≤ a ∧ b < (n : Int)) : vp_in x n := vp_in_iff.mpr ⟨by have := h.1; omega, by have := h.2; omega⟩
theorem v_lt {x : Int32} {n : Nat} (h : vp_in x n) : x.toNatClampNeg < n := Nat.not_le.mp fun q => h (Or.inr q)
theorem cl_int {a b : Int} {x : Int32} (h : rg a b x) (hn : 0 ≤ a) : (x.toNatClampNeg : Int) = x.toInt := by
  have h0 := h.1
  obtain ⟨j, hj, e⟩ := nI_of (x := x) (fun q => by have := i_lt q; simp at this; omega)
  subst e
  rw [nI_clamp hj, nI_toInt hj]
theorem m_up {HI K : Int} {n : Nat} {a b : Int} {x y : Int32} (e : y.toInt = x.toInt + K) (hy : rg a b y) (hn : 0 < K ∧ b ≤ HI) (hm : (HI - x.toInt).toNat < n + 1) : (HI - y.toInt).toNat < n := by
  have := hy.2; omega
theorem m_dn {LO K : Int} {n : Nat} {a b : Int} {x y : Int32} (e : y.toInt = x.toInt + K) (hy : rg a b y) (hn : K < 0 ∧ LO ≤ a) (hm : (x.toInt - LO).toNat < n + 1) : (y.toInt - LO).toNat < n := by
  have := hy.1; omega
/-! the typed heap -/
def ln (j : Nat) : Nat := match tb j with
  | .inl (_, n, _) => n
  | .inr (_, ds) => ds.length
def Rg (T : Nat → Nat → Int × Int) (i : Nat → Nat → Int32) : Prop := ∀ j k, k < ln j → rg (T j k).1 (T j k).2 (i j k)
def rT (t : List ((Int × Int) ⊕ List (Int × Int))) (j k : Nat) : Int × Int := match t.getD j (.inl (-2147483648, 2147483647)) with
  | .inl p => p
  | .inr l => l.getD k (-2147483648, 2147483647)
theorem Rg_at {T : Nat → Nat → Int × Int} {i : Nat → Nat → Int32} (hR : Rg T i) (j k : Nat) (lo hi : Int) (hk : k < ln j) (ht : T j k = (lo, hi)) : rg lo hi (i j k) := by
  have := hR j k hk
  rw [ht] at this
  exact this
theorem Rg_put {T : Nat → Nat → Int × Int} {i i1 : Nat → Nat → Int32} {j k : Nat} {v : Int32} {a b : Int} (hR : Rg T i) (e : i1 = up2 i j k v) (lo hi : Int) (ht : T j k = (lo, hi)) (hv : rg a b v) (hn : lo ≤ a ∧ b ≤ hi) : Rg T i1 := by
  intro q r hr
  rw [e]
  by_cases hq : q = j
  · by_cases h2 : r = k
    · rw [hq, h2, up2_at, ht]
      exact rg_w hv hn
    · rw [up2_k h2]
      exact hR q r hr
  · rw [up2_j hq]
    exact hR q r hr
theorem z_j {i i1 : Nat → Nat → Int32} {j k a b : Nat} {v x : Int32} (e : i1 = up2 i j k v) (z : i a b = x) (hne : a ≠ j) : i1 a b = x := by rw [e, up2_j hne]; exact z
theorem z_k {i i1 : Nat → Nat → Int32} {j k a b : Nat} {v x : Int32} (e : i1 = up2 i j k v) (z : i a b = x) (hne : b ≠ k) : i1 a b = x := by rw [e, up2_k hne]; exact z
theorem z_s {i i1 : Nat → Nat → Int32} {j k : Nat} {v : Int32} (e : i1 = up2 i j k v) : i1 j k = v := by rw [e, up2_at]
/-! arithmetic rows that name what comes out -/
section RowsQ
variable {p : Program} {l : Launch} {e : Env} {R : Room} {s : State} {m : MethodId} {args : Array Value} {below : List Frame} {meth : Method} {c : Code} {H : Heap} {locs : List Loc} {cells slots : Nat} {Q : State → Prop} {cc : ByteArray} {pc : Nat} {ls : Array Slot} {rest : List Value}
theorem q_iadd {x y : Int32} (hx : p.tables.exec = Jvm.exec) (hb : c.code = cc) (d : decode cc pc = .ok (.iadd, 1)) (k : ∀ z : Int32, z = x + y → W p l e R s m args below meth c H locs cells slots Q (F0 m (pc + 1) ls (.int z :: rest))) : W p l e R s m args below meth c H locs cells slots Q (F0 m pc ls (.int y :: .int x :: rest)) := lv_iadd hx hb d (k _ rfl)
theorem q_isub {x y : Int32} (hx : p.tables.exec = Jvm.exec) (hb : c.code = cc) (d : decode cc pc = .ok (.isub, 1)) (k : ∀ z : Int32, z = x - y → W p l e R s m args below meth c H locs cells slots Q (F0 m (pc + 1) ls (.int z :: rest))) : W p l e R s m args below meth c H locs cells slots Q (F0 m pc ls (.int y :: .int x :: rest)) := lv_isub hx hb d (k _ rfl)
theorem q_imul {x y : Int32} (hx : p.tables.exec = Jvm.exec) (hb : c.code = cc) (d : decode cc pc = .ok (.imul, 1)) (k : ∀ z : Int32, z = x * y → W p l e R s m args below meth c H locs cells slots Q (F0 m (pc + 1) ls (.int z :: rest))) : W p l e R s m args below meth c H locs cells slots Q (F0 m pc ls (.int y :: .int x :: rest)) := lv_imul hx hb d (k _ rfl)
theorem q_iand {x y : Int32} (hx : p.tables.exec = Jvm.exec) (hb : c.code = cc) (d : decode cc pc = .ok (.iand, 1)) (k : ∀ z : Int32, z = x &&& y → W p l e R s m args below meth c H locs cells slots Q (F0 m (pc + 1) ls (.int z :: rest))) : W p l e R s m args below meth c H locs cells slots Q (F0 m pc ls (.int y :: .int x :: rest)) := lv_iand hx hb d (k _ rfl)
theorem q_ior {x y : Int32} (hx : p.tables.exec = Jvm.exec) (hb : c.code = cc) (d : decode cc pc = .ok (.ior, 1)) (k : ∀ z : Int32, z = x ||| y → W p l e R s m args below meth c H locs cells slots Q (F0 m (pc + 1) ls (.int z :: rest))) : W p l e R s m args below meth c H locs cells slots Q (F0 m pc ls (.int y :: .int x :: rest)) := lv_ior hx hb d (k _ rfl)
theorem q_ixor {x y : Int32} (hx : p.tables.exec = Jvm.exec) (hb : c.code = cc) (d : decode cc pc = .ok (.ixor, 1)) (k : ∀ z : Int32, z = x ^^^ y → W p l e R s m args below meth c H locs cells slots Q (F0 m (pc + 1) ls (.int z :: rest))) : W p l e R s m args below meth c H locs cells slots Q (F0 m pc ls (.int y :: .int x :: rest)) := lv_ixor hx hb d (k _ rfl)
theorem q_ishl {x y : Int32} (hx : p.tables.exec = Jvm.exec) (hb : c.code = cc) (d : decode cc pc = .ok (.ishl, 1)) (k : ∀ z : Int32, z = x <<< (y &&& 31) → W p l e R s m args below meth c H locs cells slots Q (F0 m (pc + 1) ls (.int z :: rest))) : W p l e R s m args below meth c H locs cells slots Q (F0 m pc ls (.int y :: .int x :: rest)) := lv_ishl hx hb d (k _ rfl)
theorem q_ishr {x y : Int32} (hx : p.tables.exec = Jvm.exec) (hb : c.code = cc) (d : decode cc pc = .ok (.ishr, 1)) (k : ∀ z : Int32, z = x >>> (y &&& 31) → W p l e R s m args below meth c H locs cells slots Q (F0 m (pc + 1) ls (.int z :: rest))) : W p l e R s m args below meth c H locs cells slots Q (F0 m pc ls (.int y :: .int x :: rest)) := lv_ishr hx hb d (k _ rfl)
theorem q_ladd {x y : Int64} (hx : p.tables.exec = Jvm.exec) (hb : c.code = cc) (d : decode cc pc = .ok (.ladd, 1)) (k : ∀ z : Int64, z = x + y → W p l e R s m args below meth c H locs cells slots Q (F0 m (pc + 1) ls (.long z :: rest))) : W p l e R s m args below meth c H locs cells slots Q (F0 m pc ls (.long y :: .long x :: rest)) := lv_ladd hx hb d (k _ rfl)
theorem q_lsub {x y : Int64} (hx : p.tables.exec = Jvm.exec) (hb : c.code = cc) (d : decode cc pc = .ok (.lsub, 1)) (k : ∀ z : Int64, z = x - y → W p l e R s m args below meth c H locs cells slots Q (F0 m (pc + 1) ls (.long z :: rest))) : W p l e R s m args below meth c H locs cells slots Q (F0 m pc ls (.long y :: .long x :: rest)) := lv_lsub hx hb d (k _ rfl)
theorem q_lmul {x y : Int64} (hx : p.tables.exec = Jvm.exec) (hb : c.code = cc) (d : decode cc pc = .ok (.lmul, 1)) (k : ∀ z : Int64, z = x * y → W p l e R s m args below meth c H locs cells slots Q (F0 m (pc + 1) ls (.long z :: rest))) : W p l e R s m args below meth c H locs cells slots Q (F0 m pc ls (.long y :: .long x :: rest)) := lv_lmul hx hb d (k _ rfl)
theorem q_i2l {x : Int32} (hx : p.tables.exec = Jvm.exec) (hb : c.code = cc) (d : decode cc pc = .ok (.i2l, 1)) (k : ∀ z : Int64, x.toInt64 = z → W p l e R s m args below meth c H locs cells slots Q (F0 m (pc + 1) ls (.long z :: rest))) : W p l e R s m args below meth c H locs cells slots Q (F0 m pc ls (.int x :: rest)) := lv_i2l hx hb d rfl (k _ rfl)
theorem q_l2i {x : Int64} (hx : p.tables.exec = Jvm.exec) (hb : c.code = cc) (d : decode cc pc = .ok (.l2i, 1)) (k : ∀ z : Int32, x.toInt32 = z → W p l e R s m args below meth c H locs cells slots Q (F0 m (pc + 1) ls (.int z :: rest))) : W p l e R s m args below meth c H locs cells slots Q (F0 m pc ls (.long x :: rest)) := lv_l2i hx hb d rfl (k _ rfl)
theorem q_i2b {x : Int32} (hx : p.tables.exec = Jvm.exec) (hb : c.code = cc) (d : decode cc pc = .ok (.i2b, 1)) (k : ∀ z : Int32, x.toInt8.toInt32 = z → W p l e R s m args below meth c H locs cells slots Q (F0 m (pc + 1) ls (.int z :: rest))) : W p l e R s m args below meth c H locs cells slots Q (F0 m pc ls (.int x :: rest)) := lv_i2b hx hb d rfl (k _ rfl)
end RowsQ
theorem rg_c {c : Int32} {x : Int32} {a : Int} (h : rg a a x) (hc : c.toInt = a := by decide) : x = c := Int32.toInt_inj.mp (by have := h.1; have := h.2; omega)
theorem rgL_c {c : Int64} {x : Int64} {a : Int} (h : rgL a a x) (hc : c.toInt = a := by decide) : x = c := Int64.toInt_inj.mp (by have := h.1; have := h.2; omega)
theorem z01 {x : Int32} (h : rg 0 1 x) : x = 0 ∨ x = 1 := by
  have h1 := h.1; have h2 := h.2
  rcases (show x.toInt = 0 ∨ x.toInt = 1 by omega) with q | q
  · exact Or.inl (Int32.toInt_inj.mp (by rw [q]; rfl))
  · exact Or.inr (Int32.toInt_inj.mp (by rw [q]; rfl))
theorem fb_z {v : Int32} (h : v = 0 ∨ v = 1) : fits .boolean (.int v) = true := by rcases h with h | h <;> subst h <;> rfl
theorem cl_c {a b : Int} {x : Int32} (h : rg a b x) (q : Nat) (e1 : a = (q : Int)) (e2 : a = b) : x.toNatClampNeg = q := by
  have h1 := cl_int h (by omega)
  have := h.1; have := h.2
  omega
theorem rg_nb (x : Int32) : rg (-128) 127 (vp_nar .byte x) := by
  rw [vp_nar_byte]
  have h1 := x.toInt8.le_toInt
  have h2 := x.toInt8.toInt_lt
  have e : x.toInt8.toInt32.toInt = x.toInt8.toInt := Int8.toInt_toInt32 _
  constructor
  · rw [e]; omega
  · rw [e]; omega
section RowsQ2
variable {p : Program} {l : Launch} {e : Env} {R : Room} {s : State} {m : MethodId} {args : Array Value} {below : List Frame} {meth : Method} {c : Code} {H : Heap} {locs : List Loc} {cells slots : Nat} {Q : State → Prop} {cc : ByteArray} {pc : Nat} {ls : Array Slot} {rest : List Value}
theorem q_land {x y : Int64} (hx : p.tables.exec = Jvm.exec) (hb : c.code = cc) (d : decode cc pc = .ok (.land, 1)) (k : ∀ z : Int64, z = x &&& y → W p l e R s m args below meth c H locs cells slots Q (F0 m (pc + 1) ls (.long z :: rest))) : W p l e R s m args below meth c H locs cells slots Q (F0 m pc ls (.long y :: .long x :: rest)) := lv_land hx hb d (k _ rfl)
theorem q_lor {x y : Int64} (hx : p.tables.exec = Jvm.exec) (hb : c.code = cc) (d : decode cc pc = .ok (.lor, 1)) (k : ∀ z : Int64, z = x ||| y → W p l e R s m args below meth c H locs cells slots Q (F0 m (pc + 1) ls (.long z :: rest))) : W p l e R s m args below meth c H locs cells slots Q (F0 m pc ls (.long y :: .long x :: rest)) := lv_lor hx hb d (k _ rfl)
theorem q_lshl {x : Int64} {y : Int32} (hx : p.tables.exec = Jvm.exec) (hb : c.code = cc) (d : decode cc pc = .ok (.lshl, 1)) (k : ∀ z : Int64, x <<< (y.toInt64 &&& 63) = z → W p l e R s m args below meth c H locs cells slots Q (F0 m (pc + 1) ls (.long z :: rest))) : W p l e R s m args below meth c H locs cells slots Q (F0 m pc ls (.int y :: .long x :: rest)) := lv_lshl hx hb d rfl (k _ rfl)
end RowsQ2
theorem rg_and127 {x z : Int32} (e : z = x &&& 127) : rg 0 127 z := by
  obtain ⟨j, hj, q⟩ := pk_andE x (m := 127) 7 (by decide)
  rw [e, q]
  have h := nI_toInt (n := j) (by omega)
  constructor <;> rw [h] <;> omega
theorem Rg_dec {T : List ((Int × Int) ⊕ List (Int × Int))} {i : Nat → Nat → Int32} (h : (List.range NC).all (fun j => (List.range (ln j)).all (fun k => decide ((rT T j k).1 ≤ (i j k).toInt) && decide ((i j k).toInt ≤ (rT T j k).2))) = true) (hN : ∀ j, NC ≤ j → ln j = 0) : Rg (rT T) i := by
  intro j k hk
  by_cases hj : j < NC
  · have h1 := List.all_eq_true.mp h j (List.mem_range.mpr hj)
    have h2 := List.all_eq_true.mp h1 k (List.mem_range.mpr hk)
    simp only [Bool.and_eq_true, decide_eq_true_eq] at h2
    exact h2
  · rw [hN j (by omega)] at hk
    exact absurd hk (Nat.not_lt_zero _)
def up1 (i : Nat → Nat → Int32) (j : Nat) (f : Nat → Int32) : Nat → Nat → Int32 := fun q => if q = j then f else i q
theorem up1_j {i : Nat → Nat → Int32} {j : Nat} {f : Nat → Int32} {q : Nat} (hq : q ≠ j) : up1 i j f q = i q := by simp [up1, hq]
theorem up1_s (i : Nat → Nat → Int32) (j : Nat) (f : Nat → Int32) : up1 i j f j = f := by simp [up1]
section RowsB
variable {p : Program} {l : Launch} {e : Env} {R : Room} {s : State} {m : MethodId} {args : Array Value} {below : List Frame} {meth : Method} {c : Code} {H H0 : Heap} {locs : List Loc} {cells slots : Nat} {Q : State → Prop} {cc : ByteArray} {nL : Nat} {own : String} {D : va_G} {cz : Nat → ClassId} {h : Nat → Nat} {i : Nat → Nat → Int32} {g : Nat → Nat → Int64} {pc : Nat} {ls : Array Slot} {rest : List Value}
theorem r_alen (X : Cxt p s m c args cc nL own D cz) (hT : TH D h cz i g H) (j : Nat) {kd n : Nat} {rs : List Nat} (ht : tb j = .inl (kd, n, rs)) (hkd : kd < 4) (hj : j < NC) {v : Int32} (hv : Int32.ofNat n = v) (hdg : decode cc pc = .ok (.arraylength, 1))
    (kk : W p l e R s m args below meth c H locs cells slots Q (F0 m (pc + 1) ls (.int v :: rest))) : W p l e R s m args below meth c H locs cells slots Q (F0 m pc ls (.ref (h j) :: rest)) := by
  match kd, hkd, ht with
  | 0, _, ht => exact va_alen X.1 X.2.1 X.2.2.2.2.2 hT.1 j 0 (cA := cz 0) (x := (n, .inl (i j))) (by rw [wH_get _ _ _ _ hj, ht]; rfl) (ty := .int) rfl hv hdg kk
  | 1, _, ht => exact va_alen X.1 X.2.1 X.2.2.2.2.2 hT.1 j 1 (cA := cz 1) (x := (n, .inl (i j))) (by rw [wH_get _ _ _ _ hj, ht]; rfl) (ty := .byte) rfl hv hdg kk
  | 2, _, ht => exact va_alen X.1 X.2.1 X.2.2.2.2.2 hT.1 j 2 (cA := cz 2) (x := (n, .inl (i j))) (by rw [wH_get _ _ _ _ hj, ht]; rfl) (ty := .boolean) rfl hv hdg kk
  | 3, _, ht => exact va_alen X.1 X.2.1 X.2.2.2.2.2 hT.1 j 3 (cA := cz 3) (x := (n, .inr (.inl (g j)))) (by rw [wH_get _ _ _ _ hj, ht]; rfl) (ty := .long) rfl hv hdg kk
theorem r_copyi (X : Cxt p s m c args cc nL own D cz) (hT : TH D h cz i g H) (hS : va_S (hA h) H0 H locs) (hz : ls.size = nL) (j0 j1 : Nat) {n0 n1 : Nat} {rs0 rs1 : List Nat} (ht0 : tb j0 = .inl (0, n0, rs0)) (ht1 : tb j1 = .inl (0, n1, rs1)) (hj0 : j0 < NC) (hj1 : j1 < NC) {index : Nat} (ml : Cond.methodLink own index arraycopyName ∈ GW) (mn : Cond.native arraycopyName ∈ GW) (ms : Cond.static arraycopyName ∈ GW) (mi : Cond.initialized "java/lang/System" ∈ GW)
    {sp dp n : Int32} {a1 b1 a2 b2 a3 b3 : Int} (h1 : rg a1 b1 sp) (h2 : rg a2 b2 dp) (h3 : rg a3 b3 n) (hn : 0 ≤ a1 ∧ 0 ≤ a2 ∧ 0 ≤ a3 ∧ b1 + b3 ≤ (n0 : Int) ∧ b2 + b3 ≤ (n1 : Int)) (hframes : 1 ≤ R.frames) (hlocals : (rest.map fun v => v.category).sum + (nativeFrameWords "java/lang/System" "arraycopy" 5 + 11) ≤ R.locals) (hdg : decode cc pc = .ok (.invokestatic index, 3))
    (kk : ∀ (H1 : Heap) (locs1 : List Loc) (i1 : Nat → Nat → Int32), i1 = up1 i j1 (va_cpy (i j0) (i j1) sp.toNatClampNeg dp.toNatClampNeg n.toNatClampNeg) → TH D h cz i1 g H1 → va_S (hA h) H0 H1 locs1 → W p l e R s m args below meth c H1 locs1 cells slots Q (F0 m (pc + 3) ls rest)) : W p l e R s m args below meth c H locs cells slots Q (F0 m pc ls (.int n :: .int dp :: .ref (h j1) :: .int sp :: .ref (h j0) :: rest)) := by
  obtain ⟨hx, hb, hml, hown, hts, hK⟩ := X
  obtain ⟨n1', n2', n3', n4', n5'⟩ := hn
  have c1 := cl_int h1 n1'; have c2 := cl_int h2 n2'; have c3 := cl_int h3 n3'
  have := h1.1; have := h1.2; have := h2.1; have := h2.2; have := h3.1; have := h3.2
  refine va_copyi hx hb (hml.trans hz.symm) hown (hts _ ml) (hts _ mn) (hts _ ms) (hts _ mi) hK hT.1 (wH_D hT.2 cz i g) hS j0 j1 0 0 (c0 := cz 0) (c1 := cz 0) (n0 := n0) (n1 := n1) (f := i j0) (g := i j1) (ty := .int) (by rw [wH_get _ _ _ _ hj0, ht0]; rfl) (by rw [wH_get _ _ _ _ hj1, ht1]; rfl) rfl rfl rfl (fun q => by have := i_lt q; simp at this; omega) (fun q => by have := i_lt q; simp at this; omega) (fun q => by have := i_lt q; simp at this; omega) (by omega) (by omega) (fun _ _ => rfl) hframes hlocals hdg (fun H1 locs1 hP _ hS1 => kk H1 locs1 _ rfl ⟨?_, hT.2⟩ hS1)
  have e : (wH h cz i g).set j1 (h j1, .inl (cz 0, n1, .inl (va_cpy (i j0) (i j1) sp.toNatClampNeg dp.toNatClampNeg n.toNatClampNeg))) = wH h cz (up1 i j1 (va_cpy (i j0) (i j1) sp.toNatClampNeg dp.toNatClampNeg n.toNatClampNeg)) g := by
    rw [← wH_set (i := i) (g := g) (j := j1) (fun q hq => up1_j hq) (fun _ _ => rfl), ht1, up1_s]
    rfl
  rw [e] at hP
  exact hP
end RowsB
theorem Rg_cpy {T : Nat → Nat → Int × Int} {i i1 : Nat → Nat → Int32} {j0 j1 sp dp n : Nat} (hR : Rg T i) (e : i1 = up1 i j1 (va_cpy (i j0) (i j1) sp dp n)) (a b lo hi : Int) (t0 : ∀ k, T j0 k = (a, b)) (t1 : ∀ k, T j1 k = (lo, hi)) (hs : sp + n ≤ ln j0) (hn : lo ≤ a ∧ b ≤ hi) : Rg T i1 := by
  intro q r hr
  rw [e]
  by_cases hq : q = j1
  · rw [hq, up1_s, t1]
    unfold va_cpy
    by_cases hc : dp ≤ r ∧ r < dp + n
    · rw [if_pos hc]
      have h9 := hR j0 (sp + (r - dp)) (by omega)
      rw [t0] at h9
      exact rg_w h9 hn
    · rw [if_neg hc]
      rw [hq] at hr
      have h9 := hR j1 r hr
      rw [t1] at h9
      exact h9
  · rw [up1_j hq]
    exact hR q r hr
theorem Rg_mono {T T' : List ((Int × Int) ⊕ List (Int × Int))} {i : Nat → Nat → Int32} (hR : Rg (rT T) i) (h : (List.range NC).all (fun j => (List.range (ln j)).all (fun k => decide ((rT T' j k).1 ≤ (rT T j k).1) && decide ((rT T j k).2 ≤ (rT T' j k).2))) = true) (hN : ∀ j, NC ≤ j → ln j = 0) : Rg (rT T') i := by
  intro j k hk
  by_cases hj : j < NC
  · have h1 := List.all_eq_true.mp h j (List.mem_range.mpr hj)
    have h2 := List.all_eq_true.mp h1 k (List.mem_range.mpr hk)
    simp only [Bool.and_eq_true, decide_eq_true_eq] at h2
    exact rg_w (hR j k hk) h2
  · rw [hN j (by omega)] at hk
    exact absurd hk (Nat.not_lt_zero _)
