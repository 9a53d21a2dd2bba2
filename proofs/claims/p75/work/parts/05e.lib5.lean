/-! rows of single methods -/
theorem ad_eq {x y w : Int32} {K : Int} (a : x.toInt = y.toInt + K) (z : y = w) : x.toInt = w.toInt + K := by rw [a, z]
theorem eL_mul {x y : Int64} (h : -9223372036854775808 ≤ x.toInt * y.toInt ∧ x.toInt * y.toInt ≤ 9223372036854775807) : (x * y).toInt = x.toInt * y.toInt := by
  rw [Int64.toInt_mul]; exact bm64 h
theorem rgL_mul {a b c d : Int} (lo hi : Int) {x y z : Int64} (ez : z = x * y) (h1 : rgL a b x) (h2 : rgL c d y) (hn : 0 ≤ a ∧ 0 ≤ c ∧ lo ≤ a * c ∧ b * d ≤ hi ∧ b * d ≤ 9223372036854775807) : rgL lo hi z ∧ z.toInt = x.toInt * y.toInt := by
  have m := mulb h1 h2 hn.1 hn.2.1
  have hac : 0 ≤ a * c := Int.mul_nonneg hn.1 hn.2.1
  have e : z.toInt = x.toInt * y.toInt := by rw [ez]; exact eL_mul (by omega)
  exact ⟨⟨by rw [e]; omega, by rw [e]; omega⟩, e⟩
theorem cl_ix {la ha lb hb : Int} {a b x1 x : Int32} (ra : rg la ha a) (rb : rg lb hb b) (h1 : x1.toInt = a.toInt * 60) (h2 : x.toInt = x1.toInt + b.toInt) (na : 0 ≤ la) (nb : 0 ≤ lb) : x.toNatClampNeg = 60 * a.toNatClampNeg + b.toNatClampNeg := by
  have e1 := cl_int ra na
  have e2 := cl_int rb nb
  have e3 : (x.toNatClampNeg : Int) = x.toInt := cl_int (a := 0) (b := x.toInt) ⟨by have := ra.1; have := rb.1; omega, Int.le_refl _⟩ (Int.le_refl _)
  omega
theorem clp {lo hi : Int} {x : Int32} (h : rg lo hi x) (hn : 0 ≤ lo) : (x.toNatClampNeg : Int) = x.toInt := cl_int h hn
def goodC (g : Nat → Nat → Int64) (a : Int32) (q : Nat) : Prop := rgL 0 5 (g 64 (60 * a.toNatClampNeg + 3 * q)) ∧ rgL 0 12 (g 64 (60 * a.toNatClampNeg + 3 * q + 1)) ∧ rgL 0 99 (g 64 (60 * a.toNatClampNeg + 3 * q + 2))
def goodM (g : Nat → Nat → Int64) (a : Int32) (q : Nat) : Prop := rgL 0 5 (g 99 (60 * a.toNatClampNeg + 3 * q)) ∧ rgL 0 12 (g 99 (60 * a.toNatClampNeg + 3 * q + 1)) ∧ rgL 0 99 (g 99 (60 * a.toNatClampNeg + 3 * q + 2))
theorem m3 {hi : Int} {x : Int32} (h : x.toInt % 3 = 0) (pb : rg 0 hi x) : ∃ q : Nat, x.toInt = 3 * (q : Int) ∧ x.toNatClampNeg = 3 * q := by
  have e := cl_int pb (Int.le_refl _)
  refine ⟨x.toNatClampNeg / 3, ?_, ?_⟩ <;> omega
theorem seenC_0 {hi : Int} {i : Nat → Nat → Int32} {g : Nat → Nat → Int64} {a x y s : Int32} {r : Int64} (hS : seenC i g a) (h3 : x.toInt % 3 = 0) (pb : rg 0 hi x) (d : y.toInt = x.toInt + 2) (q : y.toInt < s.toInt) (es : s = i 63 a.toNatClampNeg) (nm : r = g 64 (60 * a.toNatClampNeg + x.toNatClampNeg)) : rgL 0 5 r := by
  obtain ⟨k, e1, e2⟩ := m3 h3 pb
  have hs : (s.toNatClampNeg : Int) = s.toInt := cl_int (a := 0) (b := s.toInt) ⟨by omega, Int.le_refl _⟩ (Int.le_refl _)
  rw [nm, e2]
  exact (hS k (by rw [← es]; omega)).1
theorem seenC_1 {hi : Int} {i : Nat → Nat → Int32} {g : Nat → Nat → Int64} {a x y s x1 : Int32} {r : Int64} (hS : seenC i g a) (h3 : x.toInt % 3 = 0) (pb : rg 0 hi x) (d : y.toInt = x.toInt + 2) (q : y.toInt < s.toInt) (es : s = i 63 a.toNatClampNeg) (e : x1.toInt = x.toInt + 1) (nm : r = g 64 (60 * a.toNatClampNeg + x1.toNatClampNeg)) : rgL 0 12 r := by
  obtain ⟨k, e1, e2⟩ := m3 h3 pb
  have hs : (s.toNatClampNeg : Int) = s.toInt := cl_int (a := 0) (b := s.toInt) ⟨by omega, Int.le_refl _⟩ (Int.le_refl _)
  have hx1 : (x1.toNatClampNeg : Int) = x1.toInt := cl_int (a := 0) (b := x1.toInt) ⟨by omega, Int.le_refl _⟩ (Int.le_refl _)
  have e3 : 60 * a.toNatClampNeg + x1.toNatClampNeg = 60 * a.toNatClampNeg + 3 * k + 1 := by omega
  rw [nm, e3]
  exact (hS k (by rw [← es]; omega)).2.1
theorem seenC_st {hi : Int} {g : Nat → Nat → Int64} {a x x' x1 x2 : Int32} {r0 r1 r2 : Int64} (hgd : ∀ q : Nat, 3 * (q : Int) < x.toInt → goodC g a q) (h3 : x.toInt % 3 = 0) (pb : rg 0 hi x) (eq : x'.toInt = x.toInt + 3) (e0 : r0 = g 64 (60 * a.toNatClampNeg + x.toNatClampNeg)) (p0 : rgL 0 5 r0) (q1 : x1.toInt = x.toInt + 1) (e1 : r1 = g 64 (60 * a.toNatClampNeg + x1.toNatClampNeg)) (p1 : rgL 0 12 r1) (q2 : x2.toInt = x.toInt + 2) (e2 : r2 = g 64 (60 * a.toNatClampNeg + x2.toNatClampNeg)) (p2 : rgL 0 99 r2) : ∀ q : Nat, 3 * (q : Int) < x'.toInt → goodC g a q := by
  intro q hq
  by_cases h : 3 * (q : Int) < x.toInt
  · exact hgd q h
  · obtain ⟨k, f1, f2⟩ := m3 h3 pb
    have hqk : q = k := by omega
    subst hqk
    have hx1 : (x1.toNatClampNeg : Int) = x1.toInt := cl_int (a := 0) (b := x1.toInt) ⟨by omega, Int.le_refl _⟩ (Int.le_refl _)
    have hx2 : (x2.toNatClampNeg : Int) = x2.toInt := cl_int (a := 0) (b := x2.toInt) ⟨by omega, Int.le_refl _⟩ (Int.le_refl _)
    have g1 : 60 * a.toNatClampNeg + x1.toNatClampNeg = 60 * a.toNatClampNeg + 3 * q + 1 := by omega
    have g2 : 60 * a.toNatClampNeg + x2.toNatClampNeg = 60 * a.toNatClampNeg + 3 * q + 2 := by omega
    rw [e0, f2] at p0
    rw [e1, g1] at p1
    rw [e2, g2] at p2
    exact ⟨p0, p1, p2⟩
theorem seenC_end {i : Nat → Nat → Int32} {g : Nat → Nat → Int64} {a x y s : Int32} (hgd : ∀ q : Nat, 3 * (q : Int) < x.toInt → goodC g a q) (_h3 : x.toInt % 3 = 0) (d : y.toInt = x.toInt + 2) (q : s.toInt ≤ y.toInt) (es : s = i 63 a.toNatClampNeg) : seenC i g a := by
  intro k hk
  rw [← es] at hk
  have : (s.toNatClampNeg : Int) ≤ s.toInt ∨ s.toNatClampNeg = 0 := by
    show (s.toInt.toNat : Int) ≤ s.toInt ∨ s.toInt.toNat = 0
    omega
  exact hgd k (by omega)
theorem kM {hi ha : Int} {a x x1 k : Int32} (pb : rg 0 hi x) (pa : rg 0 ha a) (me : x1.toInt = 60 * a.toInt) (dk : k.toInt = x1.toInt + x.toInt) : k.toNatClampNeg = 60 * a.toNatClampNeg + x.toNatClampNeg := by
  have e1 := cl_int pa (Int.le_refl _)
  have e2 := cl_int pb (Int.le_refl _)
  have e3 : (k.toNatClampNeg : Int) = k.toInt := cl_int (a := 0) (b := k.toInt) ⟨by have := pa.1; have := pb.1; omega, Int.le_refl _⟩ (Int.le_refl _)
  omega
theorem seenM_0 {hi ha : Int} {i : Nat → Nat → Int32} {g : Nat → Nat → Int64} {a x x1 k : Int32} (hS : seenM i g a) (h3 : x.toInt % 3 = 0) (pb : rg 0 hi x) (pa : rg 0 ha a) (q : x.toInt < (i 98 a.toNatClampNeg).toInt) (me : x1.toInt = 60 * a.toInt) (dk : k.toInt = x1.toInt + x.toInt) : rgL 0 5 (g 99 k.toNatClampNeg) := by
  obtain ⟨w, e1, e2⟩ := m3 h3 pb
  rw [kM pb pa me dk, e2]
  refine (hS.2 w ?_).1
  have hs : ((i 98 a.toNatClampNeg).toNatClampNeg : Int) = (i 98 a.toNatClampNeg).toInt := cl_int (a := 0) (b := (i 98 a.toNatClampNeg).toInt) ⟨by omega, Int.le_refl _⟩ (Int.le_refl _)
  have := hS.1
  omega
theorem seenM_1 {hi ha : Int} {i : Nat → Nat → Int32} {g : Nat → Nat → Int64} {a x x1 k k1 : Int32} (hS : seenM i g a) (h3 : x.toInt % 3 = 0) (pb : rg 0 hi x) (pa : rg 0 ha a) (q : x.toInt < (i 98 a.toNatClampNeg).toInt) (me : x1.toInt = 60 * a.toInt) (dk : k.toInt = x1.toInt + x.toInt) (e : k1.toInt = k.toInt + 1) : rgL 0 12 (g 99 k1.toNatClampNeg) := by
  obtain ⟨w, e1, e2⟩ := m3 h3 pb
  have hk := kM pb pa me dk
  have pa1 := pa.1
  have pb1 := pb.1
  have h0 : (k.toNatClampNeg : Int) = k.toInt := cl_int (a := 0) (b := k.toInt) ⟨by omega, Int.le_refl _⟩ (Int.le_refl _)
  have h1 : (k1.toNatClampNeg : Int) = k1.toInt := cl_int (a := 0) (b := k1.toInt) ⟨by omega, Int.le_refl _⟩ (Int.le_refl _)
  have e4 : k1.toNatClampNeg = 60 * a.toNatClampNeg + 3 * w + 1 := by omega
  rw [e4]
  refine (hS.2 w ?_).2.1
  have hs : ((i 98 a.toNatClampNeg).toNatClampNeg : Int) = (i 98 a.toNatClampNeg).toInt := cl_int (a := 0) (b := (i 98 a.toNatClampNeg).toInt) ⟨by omega, Int.le_refl _⟩ (Int.le_refl _)
  have := hS.1
  omega
theorem seenM_st {hi ha : Int} {g : Nat → Nat → Int64} {a x x' x1 k k1 k2 : Int32} (hgd : ∀ q : Nat, 3 * (q : Int) < x.toInt → goodM g a q) (h3 : x.toInt % 3 = 0) (pb : rg 0 hi x) (pa : rg 0 ha a) (eq : x'.toInt = x.toInt + 3) (me : x1.toInt = 60 * a.toInt) (dk : k.toInt = x1.toInt + x.toInt) (p0 : rgL 0 5 (g 99 k.toNatClampNeg)) (q1 : k1.toInt = k.toInt + 1) (p1 : rgL 0 12 (g 99 k1.toNatClampNeg)) (q2 : k2.toInt = k.toInt + 2) (p2 : rgL 0 99 (g 99 k2.toNatClampNeg)) : ∀ q : Nat, 3 * (q : Int) < x'.toInt → goodM g a q := by
  intro q hq
  by_cases h : 3 * (q : Int) < x.toInt
  · exact hgd q h
  · obtain ⟨w, f1, f2⟩ := m3 h3 pb
    have hqk : q = w := by omega
    subst hqk
    have hk := kM pb pa me dk
    have pa1 := pa.1
    have pb1 := pb.1
    have h0 : (k.toNatClampNeg : Int) = k.toInt := cl_int (a := 0) (b := k.toInt) ⟨by omega, Int.le_refl _⟩ (Int.le_refl _)
    have hx1 : (k1.toNatClampNeg : Int) = k1.toInt := cl_int (a := 0) (b := k1.toInt) ⟨by omega, Int.le_refl _⟩ (Int.le_refl _)
    have hx2 : (k2.toNatClampNeg : Int) = k2.toInt := cl_int (a := 0) (b := k2.toInt) ⟨by omega, Int.le_refl _⟩ (Int.le_refl _)
    have g0 : k.toNatClampNeg = 60 * a.toNatClampNeg + 3 * q := by omega
    have g1 : k1.toNatClampNeg = 60 * a.toNatClampNeg + 3 * q + 1 := by omega
    have g2 : k2.toNatClampNeg = 60 * a.toNatClampNeg + 3 * q + 2 := by omega
    rw [g0] at p0
    rw [g1] at p1
    rw [g2] at p2
    exact ⟨p0, p1, p2⟩
theorem seenM_end {hi : Int} {i : Nat → Nat → Int32} {g : Nat → Nat → Int64} {a x xr : Int32} (hgd : ∀ q : Nat, 3 * (q : Int) < x.toInt → goodM g a q) (_h3 : x.toInt % 3 = 0) (_pb : rg 0 hi x) (q : (i 98 a.toNatClampNeg).toInt ≤ x.toInt) (d : xr.toInt = (i 98 a.toNatClampNeg).toInt % 3) (z : xr.toInt = 0) : seenM i g a := by
  refine ⟨by omega, fun k hk => ?_⟩
  have : ((i 98 a.toNatClampNeg).toNatClampNeg : Int) ≤ (i 98 a.toNatClampNeg).toInt ∨ (i 98 a.toNatClampNeg).toNatClampNeg = 0 := by
    show ((i 98 a.toNatClampNeg).toInt.toNat : Int) ≤ (i 98 a.toNatClampNeg).toInt ∨ (i 98 a.toNatClampNeg).toInt.toNat = 0
    omega
  exact hgd k (by omega)
theorem fill_st {hi : Int} {i1 i2 : Nat → Nat → Int32} {j : Nat} {x x' v : Int32} (hfl : ∀ k : Nat, (k : Int) < x.toInt → i1 j k = v) (ph : rg 0 hi x) (e : i2 = up2 i1 j x.toNatClampNeg v) (d : x'.toInt = x.toInt + 1) : ∀ k : Nat, (k : Int) < x'.toInt → i2 j k = v := by
  intro k hk
  have hx := cl_int ph (Int.le_refl _)
  rw [e]
  by_cases h : k = x.toNatClampNeg
  · rw [h, up2_at]
  · rw [up2_k h]
    exact hfl k (by omega)
theorem air_st {i1 i2 : Nat → Nat → Int32} {j k0 : Nat} {x x' v : Int32} (har : ∀ k : Nat, k < 72 → (i1 j k).toInt ≤ x.toInt) (e : i2 = up2 i1 j k0 v) (hv : v.toInt ≤ x.toInt + 1) (d : x'.toInt = x.toInt + 1) : ∀ k : Nat, k < 72 → (i2 j k).toInt ≤ x'.toInt := by
  intro k hk
  rw [e]
  by_cases h : k = k0
  · rw [h, up2_at]; omega
  · rw [up2_k h]
    have := har k hk
    omega
theorem bit1 {a b x1 x2 : Int32} (e1 : x1 = a >>> (b &&& 31)) (e2 : x2 = x1 &&& 1) (q : x2.toInt = 1) : (a >>> (b &&& 31)) &&& 1 = 1 := by
  rw [← e1, ← e2]
  exact Int32.toInt_inj.mp q
theorem bit0 {a b x1 x2 : Int32} (e1 : x1 = a >>> (b &&& 31)) (e2 : x2 = x1 &&& 1) (q : ¬ x2.toInt = 1) : ¬ ((a >>> (b &&& 31)) &&& 1 = 1) := by
  rw [← e1, ← e2]
  exact fun h => q (by rw [h]; rfl)
theorem prg_mk {a b : Nat → Nat → Int32} (h1 : (a 96 7).toInt ≤ (b 96 7).toInt) (hk : b 96 12 = a 96 12) (h3 : ¬ (b 96 8).toInt = 3 ∨ (a 96 8).toInt = 3 ∨ (a 96 7).toInt < (b 96 7).toInt) : prg a b := by
  unfold prg
  rw [hk]
  omega
def mt (i : Nat → Nat → Int32) : Nat := if (i 96 12).toInt = 0 ∧ ¬ (i 96 8).toInt = 0 then (701 - (i 96 7).toInt).toNat else 0
theorem mt_hd {a : Nat → Nat → Int32} (hb : rg 0 0 (a 96 12)) (ht : ¬ (a 96 8).toInt = 0) : mt a = (701 - (a 96 7).toInt).toNat := by
  unfold mt
  rw [if_pos ⟨by have := hb.1; have := hb.2; omega, ht⟩]
theorem mt_b {lo hi : Int} {a e : Nat → Nat → Int32} {n : Nat} (p : rg lo hi (e 96 12)) (hn : 0 < lo) (hb : rg 0 0 (a 96 12)) (ht : ¬ (a 96 8).toInt = 0) (hs : rg 0 700 (a 96 7)) (hm : mt a < n + 1) : mt e < n := by
  rw [mt_hd hb ht] at hm
  have h0 : mt e = 0 := by
    unfold mt
    rw [if_neg (by have := p.1; omega)]
  have := hs.2
  omega
theorem mt_e {a k e : Nat → Nat → Int32} {n : Nat} (qe : prg a k) (te : tok a k) (pe : prg k e) (fe : ¬ (e 96 12).toInt = 0 ∨ (k 96 8).toInt = 3) (hb : rg 0 0 (a 96 12)) (ht : ¬ (a 96 8).toInt = 0) (hs : rg 0 700 (a 96 7)) (hm : mt a < n + 1) : mt e < n := by
  rw [mt_hd hb ht] at hm
  have h2 := hs.2
  have h1 := hs.1
  by_cases he : (e 96 12).toInt = 0
  · unfold prg tok at *
    have : (a 96 7).toInt < (e 96 7).toInt := by omega
    unfold mt
    split <;> omega
  · have h0 : mt e = 0 := by
      unfold mt
      rw [if_neg (by omega)]
    omega
theorem mt_j {i i1 : Nat → Nat → Int32} {j k : Nat} {v : Int32} (e : i1 = up2 i j k v) (hj : (96 : Nat) ≠ j) : mt i1 = mt i := by
  have e1 : i1 96 = i 96 := by rw [e, up2_j hj]
  unfold mt
  rw [e1]
def zz (x : Int32) : Nat := ((List.range 6).filter (fun k => !x.toBitVec.getLsbD k)).length
def mo (v : Int32) (i : Nat → Nat → Int32) : Nat := if v.toInt = 0 then 0 else 1 + zz (i 96 36)
def mi (v : Int32) (a b : Nat → Nat → Int32) : Prop := (v.toInt = 0 ∧ b 96 36 = a 96 36) ∨ (v.toInt = 1 ∧ zz (b 96 36) < zz (a 96 36))
theorem mi_0 (a : Nat → Nat → Int32) : mi 0 a a := Or.inl ⟨rfl, rfl⟩
theorem mo_st {v x : Int32} {a b : Nat → Nat → Int32} {n : Nat} (h : mi v a b) (ne : ¬ x.toInt = 0) (hm : mo x a < n + 1) : mo v b < n := by
  unfold mo at *
  rw [if_neg ne] at hm
  rcases h with ⟨h1, -⟩ | ⟨h1, h2⟩
  · rw [if_pos h1]; omega
  · rw [if_neg (by omega)]; omega
theorem bit_get (x : Int32) (p : Nat) (hp : p < 6) (h : x.toBitVec.getLsbD p = true) : (x >>> (Int32.ofNat p &&& 31)) &&& 1 = 1 := by
  have key : ((x >>> (Int32.ofNat p &&& 31)) &&& 1).toBitVec = (x.toBitVec.sshiftRight p) &&& 1#32 := by
    rcases (show p = 0 ∨ p = 1 ∨ p = 2 ∨ p = 3 ∨ p = 4 ∨ p = 5 by omega) with rfl | rfl | rfl | rfl | rfl | rfl <;> rfl
  apply Int32.toBitVec_inj.mp
  rw [key]
  apply BitVec.eq_of_getLsbD_eq
  intro k hk
  rw [BitVec.getLsbD_and, BitVec.getLsbD_sshiftRight]
  by_cases h0 : k = 0
  · subst h0
    simp [h, show p < 32 by omega]
  · have : (1#32).getLsbD k = false := by
      rw [BitVec.getLsbD_one]
      simp [h0]
    show (_ && (1#32).getLsbD k) = (1#32).getLsbD k
    rw [this, Bool.and_false]
theorem or_get (x : Int32) (p k : Nat) (hp : p < 6) (hk : k < 6) : (x ||| (1 <<< (Int32.ofNat p &&& 31))).toBitVec.getLsbD k = (x.toBitVec.getLsbD k || decide (k = p)) := by
  rw [Int32.toBitVec_or, BitVec.getLsbD_or]
  congr 1
  rcases (show p = 0 ∨ p = 1 ∨ p = 2 ∨ p = 3 ∨ p = 4 ∨ p = 5 by omega) with rfl | rfl | rfl | rfl | rfl | rfl <;> rcases (show k = 0 ∨ k = 1 ∨ k = 2 ∨ k = 3 ∨ k = 4 ∨ k = 5 by omega) with rfl | rfl | rfl | rfl | rfl | rfl <;> rfl
theorem flt_lt {l : List Nat} {f f' : Nat → Bool} {p : Nat} (hp : p ∈ l) (h1 : f p = true) (h2 : f' p = false) (hm : ∀ k ∈ l, f' k = true → f k = true) : (l.filter f').length < (l.filter f).length := by
  induction l with
  | nil => cases hp
  | cons a l ih =>
    have hle : (l.filter f').length ≤ (l.filter f).length := by
      have hm' : ∀ k ∈ l, f' k = true → f k = true := fun k hk => hm k (List.mem_cons_of_mem _ hk)
      clear ih hp hm
      induction l with
      | nil => exact Nat.le_refl _
      | cons b l ih2 =>
        have := ih2 (fun k hk => hm' k (List.mem_cons_of_mem _ hk))
        have hb := hm' b List.mem_cons_self
        cases hfb' : f' b <;> cases hfb : f b <;> simp [List.filter_cons, hfb', hfb] at * <;> omega
    rcases List.mem_cons.mp hp with e | hpl
    · subst e
      rw [List.filter_cons, List.filter_cons, h1, h2]
      simp
      omega
    · have := ih hpl (fun k hk => hm k (List.mem_cons_of_mem _ hk))
      have ha := hm a List.mem_cons_self
      cases hfa' : f' a <;> cases hfa : f a <;> simp [List.filter_cons, hfa', hfa] at * <;> omega
theorem zz_lt {x : Int32} {p : Int32} (hp : rg 0 5 p) (hb : ¬ ((x >>> (p &&& 31)) &&& 1 = 1)) : zz (x ||| (1 <<< (p &&& 31))) < zz x := by
  obtain ⟨k, hk⟩ := Int.eq_ofNat_of_zero_le hp.1
  have hk5 : k < 6 := by have := hp.2; omega
  have e : p = Int32.ofNat k := Int32.toInt_inj.mp (by
    rw [hk]
    exact ((by decide : ∀ k : Fin 6, (Int32.ofNat k.val).toInt = (k.val : Int)) ⟨k, hk5⟩).symm)
  subst e
  have hx : x.toBitVec.getLsbD k = false := by
    cases h : x.toBitVec.getLsbD k with
    | false => rfl
    | true => exact absurd (bit_get x k hk5 h) hb
  unfold zz
  refine flt_lt (p := k) (List.mem_range.mpr hk5) (by rw [hx]; rfl) (by rw [or_get x k k hk5 hk5]; simp) (fun q hq h => ?_)
  rw [or_get x k q hk5 (List.mem_range.mp hq)] at h
  cases hq2 : x.toBitVec.getLsbD q with
  | false => rfl
  | true => rw [hq2] at h; simp at h
theorem mi_1 {v p : Int32} {a b c : Nat → Nat → Int32} (h : mi v a b) (z : v.toInt = 0) (op : c 96 36 = b 96 36 ||| (1 <<< (p &&& 31))) (bt : ¬ ((b 96 36 >>> (p &&& 31)) &&& 1 = 1)) (hp : rg 0 5 p) : mi 1 a c := by
  rcases h with ⟨-, h2⟩ | ⟨h1, -⟩
  · refine Or.inr ⟨rfl, ?_⟩
    rw [op, ← h2]
    exact zz_lt hp bt
  · omega
/-! how many bits -/
def popF : Nat → Nat → Nat
  | 0, _ => 0
  | k + 1, n => n % 2 + popF k (n / 2)
theorem pop_le : ∀ k n : Nat, popF k n ≤ k
  | 0, _ => Nat.le_refl _
  | k + 1, n => by
    have := pop_le k (n / 2)
    show n % 2 + popF k (n / 2) ≤ k + 1
    omega
theorem pop_z : ∀ k : Nat, popF k 0 = 0
  | 0 => rfl
  | k + 1 => by
    show 0 % 2 + popF k (0 / 2) = 0
    rw [Nat.zero_div, pop_z k]
theorem pop_lt : ∀ k m n : Nat, n < 2 ^ m → popF k n ≤ m
  | 0, m, n, _ => Nat.zero_le _
  | k + 1, 0, n, h => by
    have : n = 0 := by have : 2 ^ 0 = 1 := rfl; omega
    rw [this, pop_z]
    exact Nat.le_refl _
  | k + 1, m + 1, n, h => by
    have h2 : n / 2 < 2 ^ m := by rw [Nat.pow_succ] at h; omega
    have := pop_lt k m (n / 2) h2
    show n % 2 + popF k (n / 2) ≤ m + 1
    omega
theorem pop_k : ∀ k n : Nat, n ≠ 0 → n < 2 ^ k → popF k (n &&& (n - 1)) + 1 = popF k n
  | 0, n, h0, h => by have : 2 ^ 0 = 1 := rfl; omega
  | k + 1, n, h0, h => by
    have h2 : n / 2 < 2 ^ k := by rw [Nat.pow_succ] at h; omega
    show (n &&& (n - 1)) % 2 + popF k ((n &&& (n - 1)) / 2) + 1 = n % 2 + popF k (n / 2)
    rw [Nat.and_div_two]
    rcases (show n % 2 = 0 ∨ n % 2 = 1 by omega) with hm | hm
    · have e1 : (n - 1) / 2 = n / 2 - 1 := by omega
      have e2 : (n &&& (n - 1)) % 2 = 0 := by
        rcases (show (n &&& (n - 1)) % 2 = 0 ∨ (n &&& (n - 1)) % 2 = 1 by omega) with h' | h'
        · exact h'
        · have := (Nat.and_mod_two_eq_one.mp h').1
          omega
      have := pop_k k (n / 2) (by omega) h2
      rw [e1, e2, hm]
      omega
    · have e1 : (n - 1) / 2 = n / 2 := by omega
      have e2 : (n &&& (n - 1)) % 2 = 0 := by
        rcases (show (n &&& (n - 1)) % 2 = 0 ∨ (n &&& (n - 1)) % 2 = 1 by omega) with h' | h'
        · exact h'
        · have := (Nat.and_mod_two_eq_one.mp h').2
          omega
      rw [e1, e2, hm, Nat.and_self]
      omega
theorem bv0 {x : Int32} (h : ¬ x.toInt = 0) : x.toBitVec.toNat ≠ 0 := by
  intro e
  apply h
  have h1 : x.toInt = x.toBitVec.toInt := rfl
  rw [h1, BitVec.toInt_eq_toNat_cond, e]
  rfl
theorem pop_st {x y z : Int32} (e : z = x &&& y) (ey : y = x - 1) (ne : ¬ x.toInt = 0) : popF 32 z.toBitVec.toNat + 1 = popF 32 x.toBitVec.toNat := by
  have h0 := bv0 ne
  have hy : y.toBitVec.toNat = x.toBitVec.toNat - 1 := by
    rw [ey, Int32.toBitVec_sub, BitVec.toNat_sub]
    have h1 : (1 : Int32).toBitVec.toNat = 1 := rfl
    have := x.toBitVec.isLt
    rw [h1]
    omega
  rw [e, Int32.toBitVec_and, BitVec.toNat_and, hy]
  exact pop_k 32 _ h0 x.toBitVec.isLt
theorem pop_32 {r a : Int32} (nm : r.toInt = (popF 32 a.toBitVec.toNat : Int)) : rg 0 32 r := by
  have := pop_le 32 a.toBitVec.toNat
  exact ⟨by omega, by omega⟩
theorem pop_rg {lo hi K : Int} {r a : Int32} (nm : r.toInt = (popF 32 a.toBitVec.toNat : Int)) (p : rg lo hi a) (h1 : 0 ≤ lo) (h2 : hi < (2 : Int) ^ K.toNat ∧ 0 ≤ K) : rg 0 K r := by
  have e := ti_nn (x := a) (by have := p.1; omega)
  have h3 : (a.toBitVec.toNat : Int) < (2 : Int) ^ K.toNat := by have := p.2; omega
  have h4 : a.toBitVec.toNat < 2 ^ K.toNat := by
    have : ((2 ^ K.toNat : Nat) : Int) = (2 : Int) ^ K.toNat := by push_cast; rfl
    omega
  have := pop_lt 32 K.toNat _ h4
  exact ⟨by omega, by omega⟩
theorem pop_n {n v a : Int32} (hpc : n.toInt + (popF 32 v.toBitVec.toNat : Int) = (popF 32 a.toBitVec.toNat : Int)) (ne : ¬ v.toInt = 0) : n.toInt ≤ 31 := by
  have h1 := pop_st (x := v) (y := v - 1) rfl rfl ne
  have h2 := pop_le 32 a.toBitVec.toNat
  omega
theorem pop_end {n v a : Int32} (hpc : n.toInt + (popF 32 v.toBitVec.toNat : Int) = (popF 32 a.toBitVec.toNat : Int)) (z : v.toInt = 0) : n.toInt = (popF 32 a.toBitVec.toNat : Int) := by
  have e : v.toBitVec.toNat = 0 := by have := ti_nn (x := v) (by omega); omega
  rw [e, pop_z] at hpc
  omega
theorem shl1 {al y : Int32} (e : y = 1 <<< (al &&& 31)) (pal : rg 0 8 al) : y.toInt = (2 : Int) ^ al.toInt.toNat := by
  obtain ⟨k, hk⟩ := Int.eq_ofNat_of_zero_le pal.1
  have hk8 : k < 9 := by have := pal.2; omega
  have ea : al = Int32.ofNat k := Int32.toInt_inj.mp (by
    rw [hk]
    exact ((by decide : ∀ k : Fin 9, (Int32.ofNat k.val).toInt = (k.val : Int)) ⟨k, hk8⟩).symm)
  rw [hk, e, ea]
  exact (by decide : ∀ k : Fin 9, ((1 : Int32) <<< (Int32.ofNat k.val &&& 31)).toInt = (2 : Int) ^ ((k.val : Int)).toNat) ⟨k, hk8⟩
theorem pow_rg {lo hi : Int} {x al r y sv : Int32} (d : x.toInt = al.toInt - r.toInt) (sh : y = 1 <<< (al &&& 31)) (pal : rg 0 8 al) (psv : rg lo hi sv) (f : sv.toInt < y.toInt) (pr : r.toInt = (popF 32 sv.toBitVec.toNat : Int)) (hlo : 0 ≤ lo := by decide) : rg 0 8 x := by
  have e := ti_nn (x := sv) (by have := psv.1; omega)
  have ey := shl1 sh pal
  have h4 : sv.toBitVec.toNat < 2 ^ al.toInt.toNat := by
    have : ((2 ^ al.toInt.toNat : Nat) : Int) = (2 : Int) ^ al.toInt.toNat := by push_cast; rfl
    omega
  have := pop_lt 32 al.toInt.toNat _ h4
  have := pal.1
  have := pal.2
  exact ⟨by omega, by omega⟩
theorem cell_j {i i1 : Nat → Nat → Int32} {j k a : Nat} {v : Int32} (e : i1 = up2 i j k v) (h : a ≠ j) : i1 a = i a := by rw [e, up2_j h]
theorem cell_s {i i1 : Nat → Nat → Int32} {j k : Nat} {v : Int32} (e : i1 = up2 i j k v) : i1 j = upd (i j) k v := by rw [e, up2_s]
theorem cell_c {i i1 : Nat → Nat → Int32} {j a : Nat} {f : Nat → Int32} (e : i1 = up1 i j f) (h : a ≠ j) : i1 a = i a := by rw [e, up1_j h]
