theorem sl_in {x : Int32} {L : Nat} (c : Int32) (hx : rg 0 3066 x) (hL : x.toInt + 6 ≤ (L : Int)) (hc : 0 ≤ c.toInt ∧ c.toInt ≤ 5) : vp_in (x + c) L := by
  have h1 := hx.1
  have h2 := hx.2
  have e := e_add (x := x) (y := c) (by omega)
  exact vp_in_iff.mpr ⟨by omega, by omega⟩
theorem sl_in0 {x : Int32} {L : Nat} (hx : rg 0 3066 x) (hL : x.toInt + 6 ≤ (L : Int)) : vp_in x L := by
  have h1 := hx.1
  exact vp_in_iff.mpr ⟨by omega, by omega⟩
theorem ofN {L : Nat} (hL : L ≤ 3072) : (Int32.ofNat L).toInt = (L : Int) := by
  rw [Int32.toInt_ofNat']
  exact bm32 (by omega)
theorem L6 {L : Nat} (hL : L ≤ 3072) : (Int32.ofNat L - 6).toInt = (L : Int) - 6 := by
  have e := ofN hL
  have h6 : (6 : Int32).toInt = 6 := rfl
  rw [e_sub (by omega), e, h6]
