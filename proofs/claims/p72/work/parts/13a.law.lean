def rel72 (i : Nat → Nat → Int32) : Prop := ∀ k : Nat, k < 3 → i 60 k = i 108 k
theorem rel72_f {LI LG : List Nat} {i : Nat → Nat → Int32} {g : Nat → Nat → Int64} {u : St2} (h : rel72 i) (f : Fr LI LG i g u) (h1 : LI.contains 60 = false) (h2 : LI.contains 108 = false) : rel72 u.1 := by
  intro k hk
  rw [f.1 60 h1, f.1 108 h2]
  exact h k hk
theorem rel72_1 {a b c : Nat → Nat → Int32} {K : Nat} {v : Int32} (r : rel72 a) (h1 : b 60 = upd (a 60) K v) (h2 : b 108 = a 108) (h3 : c 60 = b 60) (h4 : c 108 = upd (b 108) K v) : rel72 c := by
  intro k hk
  rw [h3, h4, h1, h2]
  by_cases e : k = K
  · simp [upd, e]
  · simp [upd, e]; exact r k hk
theorem rel72_0 {a b c : Nat → Nat → Int32} (r : rel72 a) (h1 : b 60 = a 60) (h2 : b 108 = a 108) (h3 : c 60 = b 60) (h4 : c 108 = b 108) : rel72 c := by
  intro k hk
  rw [h3, h4, h1, h2]
  exact r k hk
theorem sl_in {x : Int32} {L : Nat} (c : Int32) (hx : rg 0 3066 x) (hL : x.toInt + 6 ≤ (L : Int)) (hc : 0 ≤ c.toInt ∧ c.toInt ≤ 5) : vp_in (x + c) L := by
  have h1 := hx.1
  have h2 := hx.2
  have e := e_add (x := x) (y := c) (by omega)
  exact vp_in_iff.mpr ⟨by omega, by omega⟩
theorem sl_in0 {x : Int32} {L : Nat} (hx : rg 0 3066 x) (hL : x.toInt + 6 ≤ (L : Int)) : vp_in x L := by
  have h1 := hx.1
  exact vp_in_iff.mpr ⟨by omega, by omega⟩
theorem ofN {L : Nat} (hL : L ≤ 3072) : (Int32.ofNat L).toInt = (L : Int) := by
  rw [Int32.toInt_ofNat']
  exact bm32 (by omega)
theorem L6 {L : Nat} (hL : L ≤ 3072) : (Int32.ofNat L - 6).toInt = (L : Int) - 6 := by
  have e := ofN hL
  have h6 : (6 : Int32).toInt = 6 := rfl
  rw [e_sub (by omega), e, h6]
