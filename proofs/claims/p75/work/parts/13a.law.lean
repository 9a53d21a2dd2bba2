def rel74 (i : Nat → Nat → Int32) : Prop := ∀ k : Nat, k < 4 → i 62 k = i 97 k ∧ i 63 k = i 98 k
theorem rel74_f {LI LG : List Nat} {i : Nat → Nat → Int32} {g : Nat → Nat → Int64} {u : St2} (h : rel74 i) (f : Fr LI LG i g u) (h1 : LI.contains 62 = false) (h2 : LI.contains 63 = false) (h3 : LI.contains 97 = false) (h4 : LI.contains 98 = false) : rel74 u.1 := by
  intro k hk
  rw [f.1 62 h1, f.1 63 h2, f.1 97 h3, f.1 98 h4]
  exact h k hk
theorem rel74_1 {a b c : Nat → Nat → Int32} {K : Nat} {v w : Int32} (r : rel74 a) (h1 : b 62 = upd (a 62) K v) (h2 : b 63 = upd (a 63) K w) (h3 : b 97 = a 97) (h4 : b 98 = a 98) (h5 : c 62 = b 62) (h6 : c 63 = b 63) (h7 : c 97 = upd (b 97) K v) (h8 : c 98 = upd (b 98) K w) : rel74 c := by
  intro k hk
  rw [h5, h6, h7, h8, h1, h2, h3, h4]
  by_cases e : k = K
  · simp [upd, e]
  · simp [upd, e]; exact r k hk
theorem rel74_0 {a b c : Nat → Nat → Int32} (r : rel74 a) (h1 : b 62 = a 62) (h2 : b 63 = a 63) (h3 : b 97 = a 97) (h4 : b 98 = a 98) (h5 : c 62 = b 62) (h6 : c 63 = b 63) (h7 : c 97 = b 97) (h8 : c 98 = b 98) : rel74 c := by
  intro k hk
  rw [h5, h6, h7, h8, h1, h2, h3, h4]
  exact r k hk
theorem sl_in {x : Int32} {L : Nat} (c : Int32) (hx : rg 0 3066 x) (hL : x.toInt + 6 ≤ (L : Int)) (hc : 0 ≤ c.toInt ∧ c.toInt ≤ 5) : vp_in (x + c) L := by
  have h1 := hx.1
  have h2 := hx.2
  have e := e_add (x := x) (y := c) (by omega)
  exact vp_in_iff.mpr ⟨by omega, by omega⟩
theorem sl_in0 {x : Int32} {L : Nat} (hx : rg 0 3066 x) (hL : x.toInt + 6 ≤ (L : Int)) : vp_in x L := by
  have h1 := hx.1
  exact vp_in_iff.mpr ⟨by omega, by omega⟩
theorem ofN {L : Nat} (hL : L ≤ 3072) : (Int32.ofNat L).toInt = (L : Int) := by
  rw [Int32.toInt_ofNat']
  exact bm32 (by omega)
theorem L6 {L : Nat} (hL : L ≤ 3072) : (Int32.ofNat L - 6).toInt = (L : Int) - 6 := by
  have e := ofN hL
  have h6 : (6 : Int32).toInt = 6 := rfl
  rw [e_sub (by omega), e, h6]
