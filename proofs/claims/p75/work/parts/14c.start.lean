set_option maxRecDepth 100000 in
theorem RgF0 : Rg rA i0 := Rg_dec (by decide +kernel) ln_hi
theorem REL0 : rel74 i0 := fun _ _ => ⟨rfl, rfl⟩
