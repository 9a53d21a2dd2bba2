/-! properties of the reference's reading, of rows that tell what was seen -/
def prg (a b : Nat → Nat → Int32) : Prop := (a 96 7).toInt ≤ (b 96 7).toInt ∧ (¬ (b 96 12).toInt = 0 ∨ ((a 96 12).toInt = 0 ∧ (¬ (b 96 8).toInt = 3 ∨ (a 96 8).toInt = 3 ∨ (a 96 7).toInt < (b 96 7).toInt)))
theorem prg_rf (a : Nat → Nat → Int32) : prg a a := ⟨Int.le_refl _, by
  by_cases h : (a 96 12).toInt = 0
  · refine Or.inr ⟨h, ?_⟩
    by_cases h3 : (a 96 8).toInt = 3
    · exact Or.inr (Or.inl h3)
    · exact Or.inl h3
  · exact Or.inl h⟩
theorem prg_tr {a b c : Nat → Nat → Int32} (h1 : prg a b) (h2 : prg b c) : prg a c := by
  unfold prg at *
  omega
theorem prg_j {a b c : Nat → Nat → Int32} {j k : Nat} {v : Int32} (h : prg a b) (e : c = up2 b j k v) (hj : (96 : Nat) ≠ j) : prg a c := by
  have e1 : c 96 = b 96 := by rw [e, up2_j hj]
  unfold prg at *
  rw [e1]
  exact h
theorem prg_k {a b c : Nat → Nat → Int32} {j k : Nat} {v : Int32} (h : prg a b) (e : c = up2 b j k v) (h7 : (7 : Nat) ≠ k) (h8 : (8 : Nat) ≠ k) (h12 : (12 : Nat) ≠ k) : prg a c := by
  have e1 : c 96 7 = b 96 7 := by rw [e, up2_k h7]
  have e2 : c 96 8 = b 96 8 := by rw [e, up2_k h8]
  have e3 : c 96 12 = b 96 12 := by rw [e, up2_k h12]
  unfold prg at *
  rw [e1, e2, e3]
  exact h
theorem prg_b {a b c : Nat → Nat → Int32} {v : Int32} {lo hi : Int} (h : prg a b) (e : c = up2 b 96 12 v) (hv : rg lo hi v) (hn : 0 < lo) : prg a c := by
  have e1 : c 96 7 = b 96 7 := by rw [e, up2_k (by decide)]
  have e3 : c 96 12 = v := by rw [e, up2_at]
  unfold prg at *
  rw [e1, e3]
  exact ⟨h.1, Or.inl (by have := hv.1; omega)⟩
theorem prg_f {LI LG : List Nat} {a b : Nat → Nat → Int32} {g : Nat → Nat → Int64} {u : St2} (h : prg a b) (f : Fr LI LG b g u) (hn : LI.contains 96 = false) : prg a u.1 := by
  have e1 : u.1 96 = b 96 := f.1 96 hn
  unfold prg at *
  rw [e1]
  exact h
def tok (a b : Nat → Nat → Int32) : Prop := ¬ (b 96 12).toInt = 0 ∨ (a 96 8).toInt = 1
theorem tok_tr {a b c : Nat → Nat → Int32} (h1 : tok a b) (h2 : prg b c) : tok a c := by
  unfold prg tok at *
  omega
theorem tok_j {a b c : Nat → Nat → Int32} {j k : Nat} {v : Int32} (h : tok a b) (e : c = up2 b j k v) (hj : (96 : Nat) ≠ j) : tok a c := by
  have e1 : c 96 = b 96 := by rw [e, up2_j hj]
  unfold tok at *
  rw [e1]
  exact h
theorem tok_k {a b c : Nat → Nat → Int32} {j k : Nat} {v : Int32} (h : tok a b) (e : c = up2 b j k v) (h12 : (12 : Nat) ≠ k) : tok a c := by
  have e3 : c 96 12 = b 96 12 := by rw [e, up2_k h12]
  unfold tok at *
  rw [e3]
  exact h
theorem tok_f {LI LG : List Nat} {a b : Nat → Nat → Int32} {g : Nat → Nat → Int64} {u : St2} (h : tok a b) (f : Fr LI LG b g u) (hn : LI.contains 96 = false) : tok a u.1 := by
  have e1 : u.1 96 = b 96 := f.1 96 hn
  unfold tok at *
  rw [e1]
  exact h
theorem tok_b {a b : Nat → Nat → Int32} {lo hi : Int} (h : rg lo hi (b 96 12)) (hn : 0 < lo) : tok a b := Or.inl (by have := h.1; omega)
theorem tok_1 {a b : Nat → Nat → Int32} (h : rg 1 1 (a 96 8)) : tok a b := Or.inr (by have := h.1; have := h.2; omega)
def seenC (i : Nat → Nat → Int32) (g : Nat → Nat → Int64) (a : Int32) : Prop := ∀ q : Nat, 3 * q + 2 < (i 63 a.toNatClampNeg).toNatClampNeg → rgL 0 5 (g 64 (60 * a.toNatClampNeg + 3 * q)) ∧ rgL 0 12 (g 64 (60 * a.toNatClampNeg + 3 * q + 1)) ∧ rgL 0 99 (g 64 (60 * a.toNatClampNeg + 3 * q + 2))
theorem seenC_j {i i1 : Nat → Nat → Int32} {g : Nat → Nat → Int64} {a : Int32} {j k : Nat} {v : Int32} (h : seenC i g a) (e : i1 = up2 i j k v) (hj : (63 : Nat) ≠ j) : seenC i1 g a := by
  have e1 : i1 63 = i 63 := by rw [e, up2_j hj]
  unfold seenC at *
  rw [e1]
  exact h
theorem seenC_f {LI LG : List Nat} {i : Nat → Nat → Int32} {g : Nat → Nat → Int64} {a : Int32} {u : St2} (h : seenC i g a) (f : Fr LI LG i g u) (h1 : LI.contains 63 = false) (h2 : LG.contains 64 = false) : seenC u.1 u.2 a := by
  have e1 : u.1 63 = i 63 := f.1 63 h1
  have e2 : u.2 64 = g 64 := f.2 64 h2
  unfold seenC at *
  rw [e1, e2]
  exact h
def seenM (i : Nat → Nat → Int32) (g : Nat → Nat → Int64) (a : Int32) : Prop := ((i 98 a.toNatClampNeg).toInt % 3 = 0) ∧ ∀ q : Nat, 3 * q + 2 < (i 98 a.toNatClampNeg).toNatClampNeg → rgL 0 5 (g 99 (60 * a.toNatClampNeg + 3 * q)) ∧ rgL 0 12 (g 99 (60 * a.toNatClampNeg + 3 * q + 1)) ∧ rgL 0 99 (g 99 (60 * a.toNatClampNeg + 3 * q + 2))
theorem seenM_j {i i1 : Nat → Nat → Int32} {g : Nat → Nat → Int64} {a : Int32} {j k : Nat} {v : Int32} (h : seenM i g a) (e : i1 = up2 i j k v) (hj : (98 : Nat) ≠ j) : seenM i1 g a := by
  have e1 : i1 98 = i 98 := by rw [e, up2_j hj]
  unfold seenM at *
  rw [e1]
  exact h
theorem seenM_f {LI LG : List Nat} {i : Nat → Nat → Int32} {g : Nat → Nat → Int64} {a : Int32} {u : St2} (h : seenM i g a) (f : Fr LI LG i g u) (h1 : LI.contains 98 = false) (h2 : LG.contains 99 = false) : seenM u.1 u.2 a := by
  have e1 : u.1 98 = i 98 := f.1 98 h1
  have e2 : u.2 99 = g 99 := f.2 99 h2
  unfold seenM at *
  rw [e1, e2]
  exact h
