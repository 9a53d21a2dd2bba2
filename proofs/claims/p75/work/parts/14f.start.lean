set_option maxRecDepth 100000 in
set_option maxHeartbeats 4000000 in
theorem EV_start {s : State} {h : Nat → Nat} {b : Nat} (hts : ∀ w ∈ lw_tbl, w.before #[Value.ref b] s = true) (hgv : (Jvm.Cond.and given_1 narrow_1).before #[Value.ref b] s = true) (hge : ∀ q, hA h q → s.heap.size ≤ q) : ∃ z : EZ, EV h z s s.heap := by
  have hs := flat_of_before _ hgv
  have hn : ∀ a : Nat, a < s.heap.size → ¬ hA h a := fun a h1 h2 => Nat.not_le.mpr h1 (hge a h2)
  obtain ⟨adK, adV, hSt, hev⟩ := vk_Sof (tm := stT) (len := lenS) (byt := bytS) (A := hA h) (N := 11) (by decide) (fun i hi => hs _ (st_ex i hi)) (fun i hi => hs _ (st_co i hi)) (fun i hi => hs _ (st_ar i hi)) (fun i hi => hs _ (st_le i hi)) (fun i hi j hj => hs _ (st_el i hi j hj)) (fun i j hi hj hij => (st_ne i hi j hj hij).imp (fun q => hs _ q) (fun q => hs _ q)) hn
  obtain ⟨fz, hfz, hfT⟩ := va_Tof (tm := .static "UncutTale" "FACTORIALS" "[I") (f := fun j => .int (facL.getD j 0)) (A := hA h) (N := 7) (by decide) (hs _ st_fa) (va_eqt (hs _ st_fl)) (fun j hj => va_eqt (hs _ (st_fe j hj))) hn
  have sr0 : (Cond.stringRef "UncutTale$Parser" 76 "tale").before #[Value.ref b] s = true := hts (.stringRef "UncutTale$Parser" 76 "tale") (List.mem_of_getElem? (i := 539) (by decide +kernel))
  have sr1 : (Cond.stringRef "UncutTale$Parser" 82 "years").before #[Value.ref b] s = true := hts (.stringRef "UncutTale$Parser" 82 "years") (List.mem_of_getElem? (i := 600) (by decide +kernel))
  have sr2 : (Cond.stringRef "UncutTale$Parser" 90 "law").before #[Value.ref b] s = true := hts (.stringRef "UncutTale$Parser" 90 "law") (List.mem_of_getElem? (i := 609) (by decide +kernel))
  have sr3 : (Cond.stringRef "UncutTale$Parser" 94 "odds").before #[Value.ref b] s = true := hts (.stringRef "UncutTale$Parser" 94 "odds") (List.mem_of_getElem? (i := 610) (by decide +kernel))
  have sr4 : (Cond.stringRef "UncutTale$Parser" 50 "part").before #[Value.ref b] s = true := hts (.stringRef "UncutTale$Parser" 50 "part") (List.mem_of_getElem? (i := 611) (by decide +kernel))
  have sr5 : (Cond.stringRef "UncutTale$Parser" 101 "charm").before #[Value.ref b] s = true := hts (.stringRef "UncutTale$Parser" 101 "charm") (List.mem_of_getElem? (i := 616) (by decide +kernel))
  have sr6 : (Cond.stringRef "UncutTale$Parser" 103 "tires").before #[Value.ref b] s = true := hts (.stringRef "UncutTale$Parser" 103 "tires") (List.mem_of_getElem? (i := 617) (by decide +kernel))
  have sr7 : (Cond.stringRef "UncutTale$Parser" 105 "stiff").before #[Value.ref b] s = true := hts (.stringRef "UncutTale$Parser" 105 "stiff") (List.mem_of_getElem? (i := 618) (by decide +kernel))
  have sr8 : (Cond.stringRef "UncutTale$Parser" 59 "fold").before #[Value.ref b] s = true := hts (.stringRef "UncutTale$Parser" 59 "fold") (List.mem_of_getElem? (i := 623) (by decide +kernel))
  have sr9 : (Cond.stringRef "UncutTale$Parser" 64 "knife").before #[Value.ref b] s = true := hts (.stringRef "UncutTale$Parser" 64 "knife") (List.mem_of_getElem? (i := 636) (by decide +kernel))
  have sr10 : (Cond.stringRef "UncutTale$Parser" 132 "at").before #[Value.ref b] s = true := hts (.stringRef "UncutTale$Parser" 132 "at") (List.mem_of_getElem? (i := 641) (by decide +kernel))
  have nw0 : va_Nw (.methodLinkNest "UncutTale$Story" 77 yX8_hasBit "UncutTale") s := va_Nw.of rfl (hts (.methodLinkNest "UncutTale$Story" 77 yX8_hasBit "UncutTale") (List.mem_of_getElem? (i := 692) (by decide +kernel)))
  have nw1 : va_Nw (.methodLinkNest "UncutTale$Course" 72 yX8_hasBit "UncutTale") s := va_Nw.of rfl (hts (.methodLinkNest "UncutTale$Course" 72 yX8_hasBit "UncutTale") (List.mem_of_getElem? (i := 756) (by decide +kernel)))
  have nw2 : va_Nw (.methodLinkNest "UncutTale$Planner" 65 yX8_hasBit "UncutTale") s := va_Nw.of rfl (hts (.methodLinkNest "UncutTale$Planner" 65 yX8_hasBit "UncutTale") (List.mem_of_getElem? (i := 1023) (by decide +kernel)))
  have nw3 : va_Nw (.methodLinkNest "UncutTale$Odds" 66 yX8_hasBit "UncutTale") s := va_Nw.of rfl (hts (.methodLinkNest "UncutTale$Odds" 66 yX8_hasBit "UncutTale") (List.mem_of_getElem? (i := 1216) (by decide +kernel)))
  have zf := va_Zof (A := hA h) (hts (.laysStatic "UncutTale" "FACTORIALS" "[I") (List.mem_of_getElem? (i := 991) (by decide +kernel))) (hts (.initialized "UncutTale") (List.mem_of_getElem? (i := 108) (by decide +kernel))) hfz hn
  have zc := va_Zof (A := hA h) (hts (.laysStatic "java/lang/String" "COMPACT_STRINGS" "Z") (List.mem_of_getElem? (i := 557) (by decide +kernel))) (hts (.initialized "java/lang/String") (List.mem_of_getElem? (i := 119) (by decide +kernel))) (va_eqt (hs _ st_cs)) hn
  have zm := va_Zqof (A := hA h) (hts (.laysStatic "jdk/internal/util/Preconditions" "SIOOBE_FORMATTER" "Ljava/util/function/BiFunction;") (List.mem_of_getElem? (i := 573) (by decide +kernel))) (hts (.initialized "jdk/internal/util/Preconditions") (List.mem_of_getElem? (i := 121) (by decide +kernel))) (hs _ st_fm) hn
  refine ⟨(adK, adV, fz), hSt, fun q o e => ?_, fun q o e => ?_, zf, hfT, zc, zm⟩
  · match q, e with
    | 0, e => cases e; exact vk_R.of sr0 (hev 0 (by decide))
    | 1, e => cases e; exact vk_R.of sr1 (hev 1 (by decide))
    | 2, e => cases e; exact vk_R.of sr2 (hev 2 (by decide))
    | 3, e => cases e; exact vk_R.of sr3 (hev 3 (by decide))
    | 4, e => cases e; exact vk_R.of sr4 (hev 4 (by decide))
    | 5, e => cases e; exact vk_R.of sr5 (hev 5 (by decide))
    | 6, e => cases e; exact vk_R.of sr6 (hev 6 (by decide))
    | 7, e => cases e; exact vk_R.of sr7 (hev 7 (by decide))
    | 8, e => cases e; exact vk_R.of sr8 (hev 8 (by decide))
    | 9, e => cases e; exact vk_R.of sr9 (hev 9 (by decide))
    | 10, e => cases e; exact vk_R.of sr10 (hev 10 (by decide))
    | q + 11, e => simp [strO] at e
  · match q, e with
    | 0, e => cases e; exact nw0
    | 1, e => cases e; exact nw1
    | 2, e => cases e; exact nw2
    | 3, e => cases e; exact nw3
    | q + 4, e => simp [nesO] at e
