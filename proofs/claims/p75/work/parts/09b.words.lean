theorem hd_X8_feed : yX8_feed.cls ≠ "java/lang/invoke/MethodHandle" ∧ yX8_feed.cls ≠ "java/lang/invoke/VarHandle" ∧ (parseMethodDescriptor yX8_feed.desc).map (fun d => d.parameters.length) = some 5 := by decide +kernel
theorem gm_492 : Cond.code yX8_feed cX8_feed 6 (some .int) ∈ GW := gm 492 (by decide +kernel) (by decide +kernel)
theorem gm_490 : Cond.instanceMethod yX8_feed ∈ GW := gm 490 (by decide +kernel) (by decide +kernel)
theorem gm_491 : Cond.selects "UncutTale" yX8_feed yX8_feed ∈ GW := gm 491 (by decide +kernel) (by decide +kernel)
theorem mk_X8_feed : MK yX8_feed cX8_feed 6 (some .int) := ⟨gm_492, gm_490, gm_491, gm_108⟩
theorem gm_489 : Cond.methodLink "UncutTaleLaw" 13 yX8_feed ∈ GW := gm 489 (by decide +kernel) (by decide +kernel)
theorem hd_X9_feed : yX9_feed.cls ≠ "java/lang/invoke/MethodHandle" ∧ yX9_feed.cls ≠ "java/lang/invoke/VarHandle" ∧ (parseMethodDescriptor yX9_feed.desc).map (fun d => d.parameters.length) = some 5 := by decide +kernel
theorem gm_1513 : Cond.code yX9_feed cX9_feed 6 (some .int) ∈ GW := gm 1513 (by decide +kernel) (by decide +kernel)
theorem gm_1511 : Cond.instanceMethod yX9_feed ∈ GW := gm 1511 (by decide +kernel) (by decide +kernel)
theorem gm_1512 : Cond.selects "UncutTaleModel" yX9_feed yX9_feed ∈ GW := gm 1512 (by decide +kernel) (by decide +kernel)
theorem mk_X9_feed : MK yX9_feed cX9_feed 6 (some .int) := ⟨gm_1513, gm_1511, gm_1512, gm_117⟩
theorem gm_1510 : Cond.methodLink "UncutTaleLaw" 17 yX9_feed ∈ GW := gm 1510 (by decide +kernel) (by decide +kernel)
theorem hd_X8_end : yX8_end.cls ≠ "java/lang/invoke/MethodHandle" ∧ yX8_end.cls ≠ "java/lang/invoke/VarHandle" ∧ (parseMethodDescriptor yX8_end.desc).map (fun d => d.parameters.length) = some 1 := by decide +kernel
theorem gm_504 : Cond.code yX8_end cX8_end 2 (some .int) ∈ GW := gm 504 (by decide +kernel) (by decide +kernel)
theorem gm_502 : Cond.instanceMethod yX8_end ∈ GW := gm 502 (by decide +kernel) (by decide +kernel)
theorem gm_503 : Cond.selects "UncutTale" yX8_end yX8_end ∈ GW := gm 503 (by decide +kernel) (by decide +kernel)
theorem mk_X8_end : MK yX8_end cX8_end 2 (some .int) := ⟨gm_504, gm_502, gm_503, gm_108⟩
theorem gm_501 : Cond.methodLink "UncutTaleLaw" 18 yX8_end ∈ GW := gm 501 (by decide +kernel) (by decide +kernel)
theorem hd_X9_end : yX9_end.cls ≠ "java/lang/invoke/MethodHandle" ∧ yX9_end.cls ≠ "java/lang/invoke/VarHandle" ∧ (parseMethodDescriptor yX9_end.desc).map (fun d => d.parameters.length) = some 1 := by decide +kernel
theorem gm_1521 : Cond.code yX9_end cX9_end 2 (some .int) ∈ GW := gm 1521 (by decide +kernel) (by decide +kernel)
theorem gm_1519 : Cond.instanceMethod yX9_end ∈ GW := gm 1519 (by decide +kernel) (by decide +kernel)
theorem gm_1520 : Cond.selects "UncutTaleModel" yX9_end yX9_end ∈ GW := gm 1520 (by decide +kernel) (by decide +kernel)
theorem mk_X9_end : MK yX9_end cX9_end 2 (some .int) := ⟨gm_1521, gm_1519, gm_1520, gm_117⟩
theorem gm_1518 : Cond.methodLink "UncutTaleLaw" 22 yX9_end ∈ GW := gm 1518 (by decide +kernel) (by decide +kernel)
theorem hd_X8_tale : yX8_tale.cls ≠ "java/lang/invoke/MethodHandle" ∧ yX8_tale.cls ≠ "java/lang/invoke/VarHandle" ∧ (parseMethodDescriptor yX8_tale.desc).map (fun d => d.parameters.length) = some 0 := by decide +kernel
theorem gm_508 : Cond.code yX8_tale cX8_tale 1 (some .int) ∈ GW := gm 508 (by decide +kernel) (by decide +kernel)
theorem gm_506 : Cond.instanceMethod yX8_tale ∈ GW := gm 506 (by decide +kernel) (by decide +kernel)
theorem gm_507 : Cond.selects "UncutTale" yX8_tale yX8_tale ∈ GW := gm 507 (by decide +kernel) (by decide +kernel)
theorem mk_X8_tale : MK yX8_tale cX8_tale 1 (some .int) := ⟨gm_508, gm_506, gm_507, gm_108⟩
theorem gm_505 : Cond.methodLink "UncutTaleLaw" 23 yX8_tale ∈ GW := gm 505 (by decide +kernel) (by decide +kernel)
theorem hd_X9_tale : yX9_tale.cls ≠ "java/lang/invoke/MethodHandle" ∧ yX9_tale.cls ≠ "java/lang/invoke/VarHandle" ∧ (parseMethodDescriptor yX9_tale.desc).map (fun d => d.parameters.length) = some 0 := by decide +kernel
theorem gm_1529 : Cond.code yX9_tale cX9_tale 1 (some .int) ∈ GW := gm 1529 (by decide +kernel) (by decide +kernel)
theorem gm_1527 : Cond.instanceMethod yX9_tale ∈ GW := gm 1527 (by decide +kernel) (by decide +kernel)
theorem gm_1528 : Cond.selects "UncutTaleModel" yX9_tale yX9_tale ∈ GW := gm 1528 (by decide +kernel) (by decide +kernel)
theorem mk_X9_tale : MK yX9_tale cX9_tale 1 (some .int) := ⟨gm_1529, gm_1527, gm_1528, gm_117⟩
theorem gm_1526 : Cond.methodLink "UncutTaleLaw" 27 yX9_tale ∈ GW := gm 1526 (by decide +kernel) (by decide +kernel)
theorem hd_X8_fault : yX8_fault.cls ≠ "java/lang/invoke/MethodHandle" ∧ yX8_fault.cls ≠ "java/lang/invoke/VarHandle" ∧ (parseMethodDescriptor yX8_fault.desc).map (fun d => d.parameters.length) = some 1 := by decide +kernel
theorem gm_664 : Cond.code yX8_fault cX8_fault 2 (some .int) ∈ GW := gm 664 (by decide +kernel) (by decide +kernel)
theorem gm_662 : Cond.instanceMethod yX8_fault ∈ GW := gm 662 (by decide +kernel) (by decide +kernel)
theorem gm_663 : Cond.selects "UncutTale" yX8_fault yX8_fault ∈ GW := gm 663 (by decide +kernel) (by decide +kernel)
theorem mk_X8_fault : MK yX8_fault cX8_fault 2 (some .int) := ⟨gm_664, gm_662, gm_663, gm_108⟩
theorem gm_661 : Cond.methodLink "UncutTaleLaw" 28 yX8_fault ∈ GW := gm 661 (by decide +kernel) (by decide +kernel)
theorem hd_X9_fault : yX9_fault.cls ≠ "java/lang/invoke/MethodHandle" ∧ yX9_fault.cls ≠ "java/lang/invoke/VarHandle" ∧ (parseMethodDescriptor yX9_fault.desc).map (fun d => d.parameters.length) = some 1 := by decide +kernel
theorem gm_1525 : Cond.code yX9_fault cX9_fault 2 (some .int) ∈ GW := gm 1525 (by decide +kernel) (by decide +kernel)
theorem gm_1523 : Cond.instanceMethod yX9_fault ∈ GW := gm 1523 (by decide +kernel) (by decide +kernel)
theorem gm_1524 : Cond.selects "UncutTaleModel" yX9_fault yX9_fault ∈ GW := gm 1524 (by decide +kernel) (by decide +kernel)
theorem mk_X9_fault : MK yX9_fault cX9_fault 2 (some .int) := ⟨gm_1525, gm_1523, gm_1524, gm_117⟩
theorem gm_1522 : Cond.methodLink "UncutTaleLaw" 31 yX9_fault ∈ GW := gm 1522 (by decide +kernel) (by decide +kernel)
theorem hd_X8_part : yX8_part.cls ≠ "java/lang/invoke/MethodHandle" ∧ yX8_part.cls ≠ "java/lang/invoke/VarHandle" ∧ (parseMethodDescriptor yX8_part.desc).map (fun d => d.parameters.length) = some 2 := by decide +kernel
theorem gm_668 : Cond.code yX8_part cX8_part 3 (some .int) ∈ GW := gm 668 (by decide +kernel) (by decide +kernel)
theorem gm_666 : Cond.instanceMethod yX8_part ∈ GW := gm 666 (by decide +kernel) (by decide +kernel)
theorem gm_667 : Cond.selects "UncutTale" yX8_part yX8_part ∈ GW := gm 667 (by decide +kernel) (by decide +kernel)
theorem mk_X8_part : MK yX8_part cX8_part 3 (some .int) := ⟨gm_668, gm_666, gm_667, gm_108⟩
theorem gm_665 : Cond.methodLink "UncutTaleLaw" 32 yX8_part ∈ GW := gm 665 (by decide +kernel) (by decide +kernel)
theorem hd_X9_part : yX9_part.cls ≠ "java/lang/invoke/MethodHandle" ∧ yX9_part.cls ≠ "java/lang/invoke/VarHandle" ∧ (parseMethodDescriptor yX9_part.desc).map (fun d => d.parameters.length) = some 2 := by decide +kernel
theorem gm_1644 : Cond.code yX9_part cX9_part 3 (some .int) ∈ GW := gm 1644 (by decide +kernel) (by decide +kernel)
theorem gm_1642 : Cond.instanceMethod yX9_part ∈ GW := gm 1642 (by decide +kernel) (by decide +kernel)
theorem gm_1643 : Cond.selects "UncutTaleModel" yX9_part yX9_part ∈ GW := gm 1643 (by decide +kernel) (by decide +kernel)
theorem mk_X9_part : MK yX9_part cX9_part 3 (some .int) := ⟨gm_1644, gm_1642, gm_1643, gm_117⟩
theorem gm_1641 : Cond.methodLink "UncutTaleLaw" 36 yX9_part ∈ GW := gm 1641 (by decide +kernel) (by decide +kernel)
theorem hd_X8_near : yX8_near.cls ≠ "java/lang/invoke/MethodHandle" ∧ yX8_near.cls ≠ "java/lang/invoke/VarHandle" ∧ (parseMethodDescriptor yX8_near.desc).map (fun d => d.parameters.length) = some 1 := by decide +kernel
theorem gm_676 : Cond.code yX8_near cX8_near 2 (some .int) ∈ GW := gm 676 (by decide +kernel) (by decide +kernel)
theorem gm_674 : Cond.instanceMethod yX8_near ∈ GW := gm 674 (by decide +kernel) (by decide +kernel)
theorem gm_675 : Cond.selects "UncutTale" yX8_near yX8_near ∈ GW := gm 675 (by decide +kernel) (by decide +kernel)
theorem mk_X8_near : MK yX8_near cX8_near 2 (some .int) := ⟨gm_676, gm_674, gm_675, gm_108⟩
theorem gm_673 : Cond.methodLink "UncutTaleLaw" 37 yX8_near ∈ GW := gm 673 (by decide +kernel) (by decide +kernel)
theorem hd_X9_near : yX9_near.cls ≠ "java/lang/invoke/MethodHandle" ∧ yX9_near.cls ≠ "java/lang/invoke/VarHandle" ∧ (parseMethodDescriptor yX9_near.desc).map (fun d => d.parameters.length) = some 1 := by decide +kernel
theorem gm_1657 : Cond.code yX9_near cX9_near 2 (some .int) ∈ GW := gm 1657 (by decide +kernel) (by decide +kernel)
theorem gm_1655 : Cond.instanceMethod yX9_near ∈ GW := gm 1655 (by decide +kernel) (by decide +kernel)
theorem gm_1656 : Cond.selects "UncutTaleModel" yX9_near yX9_near ∈ GW := gm 1656 (by decide +kernel) (by decide +kernel)
theorem mk_X9_near : MK yX9_near cX9_near 2 (some .int) := ⟨gm_1657, gm_1655, gm_1656, gm_117⟩
theorem gm_1654 : Cond.methodLink "UncutTaleLaw" 40 yX9_near ∈ GW := gm 1654 (by decide +kernel) (by decide +kernel)
theorem hd_X8_far : yX8_far.cls ≠ "java/lang/invoke/MethodHandle" ∧ yX8_far.cls ≠ "java/lang/invoke/VarHandle" ∧ (parseMethodDescriptor yX8_far.desc).map (fun d => d.parameters.length) = some 2 := by decide +kernel
theorem gm_684 : Cond.code yX8_far cX8_far 5 (some .int) ∈ GW := gm 684 (by decide +kernel) (by decide +kernel)
theorem gm_682 : Cond.instanceMethod yX8_far ∈ GW := gm 682 (by decide +kernel) (by decide +kernel)
theorem gm_683 : Cond.selects "UncutTale" yX8_far yX8_far ∈ GW := gm 683 (by decide +kernel) (by decide +kernel)
theorem mk_X8_far : MK yX8_far cX8_far 5 (some .int) := ⟨gm_684, gm_682, gm_683, gm_108⟩
theorem gm_681 : Cond.methodLink "UncutTaleLaw" 41 yX8_far ∈ GW := gm 681 (by decide +kernel) (by decide +kernel)
theorem hd_X9_far : yX9_far.cls ≠ "java/lang/invoke/MethodHandle" ∧ yX9_far.cls ≠ "java/lang/invoke/VarHandle" ∧ (parseMethodDescriptor yX9_far.desc).map (fun d => d.parameters.length) = some 2 := by decide +kernel
theorem gm_1669 : Cond.code yX9_far cX9_far 7 (some .int) ∈ GW := gm 1669 (by decide +kernel) (by decide +kernel)
theorem gm_1667 : Cond.instanceMethod yX9_far ∈ GW := gm 1667 (by decide +kernel) (by decide +kernel)
theorem gm_1668 : Cond.selects "UncutTaleModel" yX9_far yX9_far ∈ GW := gm 1668 (by decide +kernel) (by decide +kernel)
theorem mk_X9_far : MK yX9_far cX9_far 7 (some .int) := ⟨gm_1669, gm_1667, gm_1668, gm_117⟩
theorem gm_1666 : Cond.methodLink "UncutTaleLaw" 44 yX9_far ∈ GW := gm 1666 (by decide +kernel) (by decide +kernel)
theorem hd_X8_stiff : yX8_stiff.cls ≠ "java/lang/invoke/MethodHandle" ∧ yX8_stiff.cls ≠ "java/lang/invoke/VarHandle" ∧ (parseMethodDescriptor yX8_stiff.desc).map (fun d => d.parameters.length) = some 2 := by decide +kernel
theorem gm_726 : Cond.code yX8_stiff cX8_stiff 3 (some .int) ∈ GW := gm 726 (by decide +kernel) (by decide +kernel)
theorem gm_724 : Cond.instanceMethod yX8_stiff ∈ GW := gm 724 (by decide +kernel) (by decide +kernel)
theorem gm_725 : Cond.selects "UncutTale" yX8_stiff yX8_stiff ∈ GW := gm 725 (by decide +kernel) (by decide +kernel)
theorem mk_X8_stiff : MK yX8_stiff cX8_stiff 3 (some .int) := ⟨gm_726, gm_724, gm_725, gm_108⟩
theorem gm_723 : Cond.methodLink "UncutTaleLaw" 45 yX8_stiff ∈ GW := gm 723 (by decide +kernel) (by decide +kernel)
theorem hd_X9_stiff : yX9_stiff.cls ≠ "java/lang/invoke/MethodHandle" ∧ yX9_stiff.cls ≠ "java/lang/invoke/VarHandle" ∧ (parseMethodDescriptor yX9_stiff.desc).map (fun d => d.parameters.length) = some 2 := by decide +kernel
theorem gm_1676 : Cond.code yX9_stiff cX9_stiff 3 (some .int) ∈ GW := gm 1676 (by decide +kernel) (by decide +kernel)
theorem gm_1674 : Cond.instanceMethod yX9_stiff ∈ GW := gm 1674 (by decide +kernel) (by decide +kernel)
theorem gm_1675 : Cond.selects "UncutTaleModel" yX9_stiff yX9_stiff ∈ GW := gm 1675 (by decide +kernel) (by decide +kernel)
theorem mk_X9_stiff : MK yX9_stiff cX9_stiff 3 (some .int) := ⟨gm_1676, gm_1674, gm_1675, gm_117⟩
theorem gm_1673 : Cond.methodLink "UncutTaleLaw" 48 yX9_stiff ∈ GW := gm 1673 (by decide +kernel) (by decide +kernel)
theorem hd_X8_open : yX8_open.cls ≠ "java/lang/invoke/MethodHandle" ∧ yX8_open.cls ≠ "java/lang/invoke/VarHandle" ∧ (parseMethodDescriptor yX8_open.desc).map (fun d => d.parameters.length) = some 1 := by decide +kernel
theorem gm_798 : Cond.code yX8_open cX8_open 2 (some .int) ∈ GW := gm 798 (by decide +kernel) (by decide +kernel)
theorem gm_796 : Cond.instanceMethod yX8_open ∈ GW := gm 796 (by decide +kernel) (by decide +kernel)
theorem gm_797 : Cond.selects "UncutTale" yX8_open yX8_open ∈ GW := gm 797 (by decide +kernel) (by decide +kernel)
theorem mk_X8_open : MK yX8_open cX8_open 2 (some .int) := ⟨gm_798, gm_796, gm_797, gm_108⟩
theorem gm_795 : Cond.methodLink "UncutTaleLaw" 49 yX8_open ∈ GW := gm 795 (by decide +kernel) (by decide +kernel)
theorem hd_X9_open : yX9_open.cls ≠ "java/lang/invoke/MethodHandle" ∧ yX9_open.cls ≠ "java/lang/invoke/VarHandle" ∧ (parseMethodDescriptor yX9_open.desc).map (fun d => d.parameters.length) = some 1 := by decide +kernel
theorem gm_1741 : Cond.code yX9_open cX9_open 2 (some .int) ∈ GW := gm 1741 (by decide +kernel) (by decide +kernel)
theorem gm_1739 : Cond.instanceMethod yX9_open ∈ GW := gm 1739 (by decide +kernel) (by decide +kernel)
theorem gm_1740 : Cond.selects "UncutTaleModel" yX9_open yX9_open ∈ GW := gm 1740 (by decide +kernel) (by decide +kernel)
theorem mk_X9_open : MK yX9_open cX9_open 2 (some .int) := ⟨gm_1741, gm_1739, gm_1740, gm_117⟩
theorem gm_1738 : Cond.methodLink "UncutTaleLaw" 52 yX9_open ∈ GW := gm 1738 (by decide +kernel) (by decide +kernel)
theorem hd_X8_when : yX8_when.cls ≠ "java/lang/invoke/MethodHandle" ∧ yX8_when.cls ≠ "java/lang/invoke/VarHandle" ∧ (parseMethodDescriptor yX8_when.desc).map (fun d => d.parameters.length) = some 1 := by decide +kernel
theorem gm_806 : Cond.code yX8_when cX8_when 2 (some .int) ∈ GW := gm 806 (by decide +kernel) (by decide +kernel)
theorem gm_804 : Cond.instanceMethod yX8_when ∈ GW := gm 804 (by decide +kernel) (by decide +kernel)
theorem gm_805 : Cond.selects "UncutTale" yX8_when yX8_when ∈ GW := gm 805 (by decide +kernel) (by decide +kernel)
theorem mk_X8_when : MK yX8_when cX8_when 2 (some .int) := ⟨gm_806, gm_804, gm_805, gm_108⟩
theorem gm_803 : Cond.methodLink "UncutTaleLaw" 53 yX8_when ∈ GW := gm 803 (by decide +kernel) (by decide +kernel)
theorem hd_X9_when : yX9_when.cls ≠ "java/lang/invoke/MethodHandle" ∧ yX9_when.cls ≠ "java/lang/invoke/VarHandle" ∧ (parseMethodDescriptor yX9_when.desc).map (fun d => d.parameters.length) = some 1 := by decide +kernel
theorem gm_1745 : Cond.code yX9_when cX9_when 2 (some .int) ∈ GW := gm 1745 (by decide +kernel) (by decide +kernel)
theorem gm_1743 : Cond.instanceMethod yX9_when ∈ GW := gm 1743 (by decide +kernel) (by decide +kernel)
theorem gm_1744 : Cond.selects "UncutTaleModel" yX9_when yX9_when ∈ GW := gm 1744 (by decide +kernel) (by decide +kernel)
theorem mk_X9_when : MK yX9_when cX9_when 2 (some .int) := ⟨gm_1745, gm_1743, gm_1744, gm_117⟩
theorem gm_1742 : Cond.methodLink "UncutTaleLaw" 56 yX9_when ∈ GW := gm 1742 (by decide +kernel) (by decide +kernel)
theorem hd_X8_how : yX8_how.cls ≠ "java/lang/invoke/MethodHandle" ∧ yX8_how.cls ≠ "java/lang/invoke/VarHandle" ∧ (parseMethodDescriptor yX8_how.desc).map (fun d => d.parameters.length) = some 1 := by decide +kernel
theorem gm_814 : Cond.code yX8_how cX8_how 3 (some .int) ∈ GW := gm 814 (by decide +kernel) (by decide +kernel)
theorem gm_812 : Cond.instanceMethod yX8_how ∈ GW := gm 812 (by decide +kernel) (by decide +kernel)
theorem gm_813 : Cond.selects "UncutTale" yX8_how yX8_how ∈ GW := gm 813 (by decide +kernel) (by decide +kernel)
theorem mk_X8_how : MK yX8_how cX8_how 3 (some .int) := ⟨gm_814, gm_812, gm_813, gm_108⟩
theorem gm_811 : Cond.methodLink "UncutTaleLaw" 57 yX8_how ∈ GW := gm 811 (by decide +kernel) (by decide +kernel)
theorem hd_X9_how : yX9_how.cls ≠ "java/lang/invoke/MethodHandle" ∧ yX9_how.cls ≠ "java/lang/invoke/VarHandle" ∧ (parseMethodDescriptor yX9_how.desc).map (fun d => d.parameters.length) = some 1 := by decide +kernel
theorem gm_1749 : Cond.code yX9_how cX9_how 2 (some .int) ∈ GW := gm 1749 (by decide +kernel) (by decide +kernel)
theorem gm_1747 : Cond.instanceMethod yX9_how ∈ GW := gm 1747 (by decide +kernel) (by decide +kernel)
theorem gm_1748 : Cond.selects "UncutTaleModel" yX9_how yX9_how ∈ GW := gm 1748 (by decide +kernel) (by decide +kernel)
theorem mk_X9_how : MK yX9_how cX9_how 2 (some .int) := ⟨gm_1749, gm_1747, gm_1748, gm_117⟩
theorem gm_1746 : Cond.methodLink "UncutTaleLaw" 60 yX9_how ∈ GW := gm 1746 (by decide +kernel) (by decide +kernel)
theorem hd_X8_read : yX8_read.cls ≠ "java/lang/invoke/MethodHandle" ∧ yX8_read.cls ≠ "java/lang/invoke/VarHandle" ∧ (parseMethodDescriptor yX8_read.desc).map (fun d => d.parameters.length) = some 1 := by decide +kernel
theorem gm_818 : Cond.code yX8_read cX8_read 2 (some .int) ∈ GW := gm 818 (by decide +kernel) (by decide +kernel)
theorem gm_816 : Cond.instanceMethod yX8_read ∈ GW := gm 816 (by decide +kernel) (by decide +kernel)
theorem gm_817 : Cond.selects "UncutTale" yX8_read yX8_read ∈ GW := gm 817 (by decide +kernel) (by decide +kernel)
theorem mk_X8_read : MK yX8_read cX8_read 2 (some .int) := ⟨gm_818, gm_816, gm_817, gm_108⟩
theorem gm_815 : Cond.methodLink "UncutTaleLaw" 61 yX8_read ∈ GW := gm 815 (by decide +kernel) (by decide +kernel)
theorem hd_X9_read : yX9_read.cls ≠ "java/lang/invoke/MethodHandle" ∧ yX9_read.cls ≠ "java/lang/invoke/VarHandle" ∧ (parseMethodDescriptor yX9_read.desc).map (fun d => d.parameters.length) = some 1 := by decide +kernel
theorem gm_1753 : Cond.code yX9_read cX9_read 2 (some .int) ∈ GW := gm 1753 (by decide +kernel) (by decide +kernel)
theorem gm_1751 : Cond.instanceMethod yX9_read ∈ GW := gm 1751 (by decide +kernel) (by decide +kernel)
theorem gm_1752 : Cond.selects "UncutTaleModel" yX9_read yX9_read ∈ GW := gm 1752 (by decide +kernel) (by decide +kernel)
theorem mk_X9_read : MK yX9_read cX9_read 2 (some .int) := ⟨gm_1753, gm_1751, gm_1752, gm_117⟩
theorem gm_1750 : Cond.methodLink "UncutTaleLaw" 64 yX9_read ∈ GW := gm 1750 (by decide +kernel) (by decide +kernel)
theorem hd_X8_reads : yX8_reads.cls ≠ "java/lang/invoke/MethodHandle" ∧ yX8_reads.cls ≠ "java/lang/invoke/VarHandle" ∧ (parseMethodDescriptor yX8_reads.desc).map (fun d => d.parameters.length) = some 1 := by decide +kernel
theorem gm_826 : Cond.code yX8_reads cX8_reads 2 (some .int) ∈ GW := gm 826 (by decide +kernel) (by decide +kernel)
theorem gm_824 : Cond.instanceMethod yX8_reads ∈ GW := gm 824 (by decide +kernel) (by decide +kernel)
theorem gm_825 : Cond.selects "UncutTale" yX8_reads yX8_reads ∈ GW := gm 825 (by decide +kernel) (by decide +kernel)
theorem mk_X8_reads : MK yX8_reads cX8_reads 2 (some .int) := ⟨gm_826, gm_824, gm_825, gm_108⟩
theorem gm_823 : Cond.methodLink "UncutTaleLaw" 65 yX8_reads ∈ GW := gm 823 (by decide +kernel) (by decide +kernel)
theorem hd_X9_reads : yX9_reads.cls ≠ "java/lang/invoke/MethodHandle" ∧ yX9_reads.cls ≠ "java/lang/invoke/VarHandle" ∧ (parseMethodDescriptor yX9_reads.desc).map (fun d => d.parameters.length) = some 1 := by decide +kernel
theorem gm_1757 : Cond.code yX9_reads cX9_reads 2 (some .int) ∈ GW := gm 1757 (by decide +kernel) (by decide +kernel)
theorem gm_1755 : Cond.instanceMethod yX9_reads ∈ GW := gm 1755 (by decide +kernel) (by decide +kernel)
theorem gm_1756 : Cond.selects "UncutTaleModel" yX9_reads yX9_reads ∈ GW := gm 1756 (by decide +kernel) (by decide +kernel)
theorem mk_X9_reads : MK yX9_reads cX9_reads 2 (some .int) := ⟨gm_1757, gm_1755, gm_1756, gm_117⟩
theorem gm_1754 : Cond.methodLink "UncutTaleLaw" 68 yX9_reads ∈ GW := gm 1754 (by decide +kernel) (by decide +kernel)
theorem hd_X8_all : yX8_all.cls ≠ "java/lang/invoke/MethodHandle" ∧ yX8_all.cls ≠ "java/lang/invoke/VarHandle" ∧ (parseMethodDescriptor yX8_all.desc).map (fun d => d.parameters.length) = some 0 := by decide +kernel
theorem gm_839 : Cond.code yX8_all cX8_all 1 (some .int) ∈ GW := gm 839 (by decide +kernel) (by decide +kernel)
theorem gm_837 : Cond.instanceMethod yX8_all ∈ GW := gm 837 (by decide +kernel) (by decide +kernel)
theorem gm_838 : Cond.selects "UncutTale" yX8_all yX8_all ∈ GW := gm 838 (by decide +kernel) (by decide +kernel)
theorem mk_X8_all : MK yX8_all cX8_all 1 (some .int) := ⟨gm_839, gm_837, gm_838, gm_108⟩
theorem gm_836 : Cond.methodLink "UncutTaleLaw" 69 yX8_all ∈ GW := gm 836 (by decide +kernel) (by decide +kernel)
theorem hd_X9_all : yX9_all.cls ≠ "java/lang/invoke/MethodHandle" ∧ yX9_all.cls ≠ "java/lang/invoke/VarHandle" ∧ (parseMethodDescriptor yX9_all.desc).map (fun d => d.parameters.length) = some 0 := by decide +kernel
theorem gm_1769 : Cond.code yX9_all cX9_all 1 (some .int) ∈ GW := gm 1769 (by decide +kernel) (by decide +kernel)
theorem gm_1767 : Cond.instanceMethod yX9_all ∈ GW := gm 1767 (by decide +kernel) (by decide +kernel)
theorem gm_1768 : Cond.selects "UncutTaleModel" yX9_all yX9_all ∈ GW := gm 1768 (by decide +kernel) (by decide +kernel)
theorem mk_X9_all : MK yX9_all cX9_all 1 (some .int) := ⟨gm_1769, gm_1767, gm_1768, gm_117⟩
theorem gm_1766 : Cond.methodLink "UncutTaleLaw" 72 yX9_all ∈ GW := gm 1766 (by decide +kernel) (by decide +kernel)
theorem hd_X8_keeps : yX8_keeps.cls ≠ "java/lang/invoke/MethodHandle" ∧ yX8_keeps.cls ≠ "java/lang/invoke/VarHandle" ∧ (parseMethodDescriptor yX8_keeps.desc).map (fun d => d.parameters.length) = some 2 := by decide +kernel
theorem gm_847 : Cond.code yX8_keeps cX8_keeps 3 (some .int) ∈ GW := gm 847 (by decide +kernel) (by decide +kernel)
theorem gm_845 : Cond.instanceMethod yX8_keeps ∈ GW := gm 845 (by decide +kernel) (by decide +kernel)
theorem gm_846 : Cond.selects "UncutTale" yX8_keeps yX8_keeps ∈ GW := gm 846 (by decide +kernel) (by decide +kernel)
theorem mk_X8_keeps : MK yX8_keeps cX8_keeps 3 (some .int) := ⟨gm_847, gm_845, gm_846, gm_108⟩
theorem gm_844 : Cond.methodLink "UncutTaleLaw" 73 yX8_keeps ∈ GW := gm 844 (by decide +kernel) (by decide +kernel)
theorem hd_X9_keeps : yX9_keeps.cls ≠ "java/lang/invoke/MethodHandle" ∧ yX9_keeps.cls ≠ "java/lang/invoke/VarHandle" ∧ (parseMethodDescriptor yX9_keeps.desc).map (fun d => d.parameters.length) = some 2 := by decide +kernel
theorem gm_1777 : Cond.code yX9_keeps cX9_keeps 3 (some .int) ∈ GW := gm 1777 (by decide +kernel) (by decide +kernel)
theorem gm_1775 : Cond.instanceMethod yX9_keeps ∈ GW := gm 1775 (by decide +kernel) (by decide +kernel)
theorem gm_1776 : Cond.selects "UncutTaleModel" yX9_keeps yX9_keeps ∈ GW := gm 1776 (by decide +kernel) (by decide +kernel)
theorem mk_X9_keeps : MK yX9_keeps cX9_keeps 3 (some .int) := ⟨gm_1777, gm_1775, gm_1776, gm_117⟩
theorem gm_1774 : Cond.methodLink "UncutTaleLaw" 76 yX9_keeps ∈ GW := gm 1774 (by decide +kernel) (by decide +kernel)
theorem hd_X8_waits : yX8_waits.cls ≠ "java/lang/invoke/MethodHandle" ∧ yX8_waits.cls ≠ "java/lang/invoke/VarHandle" ∧ (parseMethodDescriptor yX8_waits.desc).map (fun d => d.parameters.length) = some 1 := by decide +kernel
theorem gm_855 : Cond.code yX8_waits cX8_waits 4 (some .int) ∈ GW := gm 855 (by decide +kernel) (by decide +kernel)
theorem gm_853 : Cond.instanceMethod yX8_waits ∈ GW := gm 853 (by decide +kernel) (by decide +kernel)
theorem gm_854 : Cond.selects "UncutTale" yX8_waits yX8_waits ∈ GW := gm 854 (by decide +kernel) (by decide +kernel)
theorem mk_X8_waits : MK yX8_waits cX8_waits 4 (some .int) := ⟨gm_855, gm_853, gm_854, gm_108⟩
theorem gm_852 : Cond.methodLink "UncutTaleLaw" 77 yX8_waits ∈ GW := gm 852 (by decide +kernel) (by decide +kernel)
theorem hd_X9_waits : yX9_waits.cls ≠ "java/lang/invoke/MethodHandle" ∧ yX9_waits.cls ≠ "java/lang/invoke/VarHandle" ∧ (parseMethodDescriptor yX9_waits.desc).map (fun d => d.parameters.length) = some 1 := by decide +kernel
theorem gm_1785 : Cond.code yX9_waits cX9_waits 4 (some .int) ∈ GW := gm 1785 (by decide +kernel) (by decide +kernel)
theorem gm_1783 : Cond.instanceMethod yX9_waits ∈ GW := gm 1783 (by decide +kernel) (by decide +kernel)
theorem gm_1784 : Cond.selects "UncutTaleModel" yX9_waits yX9_waits ∈ GW := gm 1784 (by decide +kernel) (by decide +kernel)
theorem mk_X9_waits : MK yX9_waits cX9_waits 4 (some .int) := ⟨gm_1785, gm_1783, gm_1784, gm_117⟩
theorem gm_1782 : Cond.methodLink "UncutTaleLaw" 80 yX9_waits ∈ GW := gm 1782 (by decide +kernel) (by decide +kernel)
theorem hd_X8_next : yX8_next.cls ≠ "java/lang/invoke/MethodHandle" ∧ yX8_next.cls ≠ "java/lang/invoke/VarHandle" ∧ (parseMethodDescriptor yX8_next.desc).map (fun d => d.parameters.length) = some 1 := by decide +kernel
theorem gm_860 : Cond.code yX8_next cX8_next 6 (some .int) ∈ GW := gm 860 (by decide +kernel) (by decide +kernel)
theorem gm_858 : Cond.instanceMethod yX8_next ∈ GW := gm 858 (by decide +kernel) (by decide +kernel)
theorem gm_859 : Cond.selects "UncutTale" yX8_next yX8_next ∈ GW := gm 859 (by decide +kernel) (by decide +kernel)
theorem mk_X8_next : MK yX8_next cX8_next 6 (some .int) := ⟨gm_860, gm_858, gm_859, gm_108⟩
theorem gm_857 : Cond.methodLink "UncutTaleLaw" 81 yX8_next ∈ GW := gm 857 (by decide +kernel) (by decide +kernel)
theorem hd_X9_next : yX9_next.cls ≠ "java/lang/invoke/MethodHandle" ∧ yX9_next.cls ≠ "java/lang/invoke/VarHandle" ∧ (parseMethodDescriptor yX9_next.desc).map (fun d => d.parameters.length) = some 1 := by decide +kernel
theorem gm_1789 : Cond.code yX9_next cX9_next 4 (some .int) ∈ GW := gm 1789 (by decide +kernel) (by decide +kernel)
theorem gm_1787 : Cond.instanceMethod yX9_next ∈ GW := gm 1787 (by decide +kernel) (by decide +kernel)
theorem gm_1788 : Cond.selects "UncutTaleModel" yX9_next yX9_next ∈ GW := gm 1788 (by decide +kernel) (by decide +kernel)
theorem mk_X9_next : MK yX9_next cX9_next 4 (some .int) := ⟨gm_1789, gm_1787, gm_1788, gm_117⟩
theorem gm_1786 : Cond.methodLink "UncutTaleLaw" 84 yX9_next ∈ GW := gm 1786 (by decide +kernel) (by decide +kernel)
theorem hd_X8_dull : yX8_dull.cls ≠ "java/lang/invoke/MethodHandle" ∧ yX8_dull.cls ≠ "java/lang/invoke/VarHandle" ∧ (parseMethodDescriptor yX8_dull.desc).map (fun d => d.parameters.length) = some 1 := by decide +kernel
theorem gm_864 : Cond.code yX8_dull cX8_dull 4 (some .int) ∈ GW := gm 864 (by decide +kernel) (by decide +kernel)
theorem gm_862 : Cond.instanceMethod yX8_dull ∈ GW := gm 862 (by decide +kernel) (by decide +kernel)
theorem gm_863 : Cond.selects "UncutTale" yX8_dull yX8_dull ∈ GW := gm 863 (by decide +kernel) (by decide +kernel)
theorem mk_X8_dull : MK yX8_dull cX8_dull 4 (some .int) := ⟨gm_864, gm_862, gm_863, gm_108⟩
theorem gm_861 : Cond.methodLink "UncutTaleLaw" 85 yX8_dull ∈ GW := gm 861 (by decide +kernel) (by decide +kernel)
theorem hd_X9_dull : yX9_dull.cls ≠ "java/lang/invoke/MethodHandle" ∧ yX9_dull.cls ≠ "java/lang/invoke/VarHandle" ∧ (parseMethodDescriptor yX9_dull.desc).map (fun d => d.parameters.length) = some 1 := by decide +kernel
theorem gm_1793 : Cond.code yX9_dull cX9_dull 4 (some .int) ∈ GW := gm 1793 (by decide +kernel) (by decide +kernel)
theorem gm_1791 : Cond.instanceMethod yX9_dull ∈ GW := gm 1791 (by decide +kernel) (by decide +kernel)
theorem gm_1792 : Cond.selects "UncutTaleModel" yX9_dull yX9_dull ∈ GW := gm 1792 (by decide +kernel) (by decide +kernel)
theorem mk_X9_dull : MK yX9_dull cX9_dull 4 (some .int) := ⟨gm_1793, gm_1791, gm_1792, gm_117⟩
theorem gm_1790 : Cond.methodLink "UncutTaleLaw" 88 yX9_dull ∈ GW := gm 1790 (by decide +kernel) (by decide +kernel)
theorem hd_X8_dies : yX8_dies.cls ≠ "java/lang/invoke/MethodHandle" ∧ yX8_dies.cls ≠ "java/lang/invoke/VarHandle" ∧ (parseMethodDescriptor yX8_dies.desc).map (fun d => d.parameters.length) = some 1 := by decide +kernel
theorem gm_868 : Cond.code yX8_dies cX8_dies 3 (some .int) ∈ GW := gm 868 (by decide +kernel) (by decide +kernel)
theorem gm_866 : Cond.instanceMethod yX8_dies ∈ GW := gm 866 (by decide +kernel) (by decide +kernel)
theorem gm_867 : Cond.selects "UncutTale" yX8_dies yX8_dies ∈ GW := gm 867 (by decide +kernel) (by decide +kernel)
theorem mk_X8_dies : MK yX8_dies cX8_dies 3 (some .int) := ⟨gm_868, gm_866, gm_867, gm_108⟩
theorem gm_865 : Cond.methodLink "UncutTaleLaw" 89 yX8_dies ∈ GW := gm 865 (by decide +kernel) (by decide +kernel)
theorem hd_X9_dies : yX9_dies.cls ≠ "java/lang/invoke/MethodHandle" ∧ yX9_dies.cls ≠ "java/lang/invoke/VarHandle" ∧ (parseMethodDescriptor yX9_dies.desc).map (fun d => d.parameters.length) = some 1 := by decide +kernel
theorem gm_1797 : Cond.code yX9_dies cX9_dies 3 (some .int) ∈ GW := gm 1797 (by decide +kernel) (by decide +kernel)
theorem gm_1795 : Cond.instanceMethod yX9_dies ∈ GW := gm 1795 (by decide +kernel) (by decide +kernel)
theorem gm_1796 : Cond.selects "UncutTaleModel" yX9_dies yX9_dies ∈ GW := gm 1796 (by decide +kernel) (by decide +kernel)
theorem mk_X9_dies : MK yX9_dies cX9_dies 3 (some .int) := ⟨gm_1797, gm_1795, gm_1796, gm_117⟩
theorem gm_1794 : Cond.methodLink "UncutTaleLaw" 92 yX9_dies ∈ GW := gm 1794 (by decide +kernel) (by decide +kernel)
theorem hd_X8_ages : yX8_ages.cls ≠ "java/lang/invoke/MethodHandle" ∧ yX8_ages.cls ≠ "java/lang/invoke/VarHandle" ∧ (parseMethodDescriptor yX8_ages.desc).map (fun d => d.parameters.length) = some 1 := by decide +kernel
theorem gm_872 : Cond.code yX8_ages cX8_ages 2 (some .int) ∈ GW := gm 872 (by decide +kernel) (by decide +kernel)
theorem gm_870 : Cond.instanceMethod yX8_ages ∈ GW := gm 870 (by decide +kernel) (by decide +kernel)
theorem gm_871 : Cond.selects "UncutTale" yX8_ages yX8_ages ∈ GW := gm 871 (by decide +kernel) (by decide +kernel)
theorem mk_X8_ages : MK yX8_ages cX8_ages 2 (some .int) := ⟨gm_872, gm_870, gm_871, gm_108⟩
theorem gm_869 : Cond.methodLink "UncutTaleLaw" 93 yX8_ages ∈ GW := gm 869 (by decide +kernel) (by decide +kernel)
theorem hd_X9_ages : yX9_ages.cls ≠ "java/lang/invoke/MethodHandle" ∧ yX9_ages.cls ≠ "java/lang/invoke/VarHandle" ∧ (parseMethodDescriptor yX9_ages.desc).map (fun d => d.parameters.length) = some 1 := by decide +kernel
theorem gm_1801 : Cond.code yX9_ages cX9_ages 2 (some .int) ∈ GW := gm 1801 (by decide +kernel) (by decide +kernel)
theorem gm_1799 : Cond.instanceMethod yX9_ages ∈ GW := gm 1799 (by decide +kernel) (by decide +kernel)
theorem gm_1800 : Cond.selects "UncutTaleModel" yX9_ages yX9_ages ∈ GW := gm 1800 (by decide +kernel) (by decide +kernel)
theorem mk_X9_ages : MK yX9_ages cX9_ages 2 (some .int) := ⟨gm_1801, gm_1799, gm_1800, gm_117⟩
theorem gm_1798 : Cond.methodLink "UncutTaleLaw" 96 yX9_ages ∈ GW := gm 1798 (by decide +kernel) (by decide +kernel)
theorem hd_X8_cut : yX8_cut.cls ≠ "java/lang/invoke/MethodHandle" ∧ yX8_cut.cls ≠ "java/lang/invoke/VarHandle" ∧ (parseMethodDescriptor yX8_cut.desc).map (fun d => d.parameters.length) = some 1 := by decide +kernel
theorem gm_888 : Cond.code yX8_cut cX8_cut 5 (some .int) ∈ GW := gm 888 (by decide +kernel) (by decide +kernel)
theorem gm_886 : Cond.instanceMethod yX8_cut ∈ GW := gm 886 (by decide +kernel) (by decide +kernel)
theorem gm_887 : Cond.selects "UncutTale" yX8_cut yX8_cut ∈ GW := gm 887 (by decide +kernel) (by decide +kernel)
theorem mk_X8_cut : MK yX8_cut cX8_cut 5 (some .int) := ⟨gm_888, gm_886, gm_887, gm_108⟩
theorem gm_885 : Cond.methodLink "UncutTaleLaw" 97 yX8_cut ∈ GW := gm 885 (by decide +kernel) (by decide +kernel)
theorem hd_X9_cut_ : yX9_cut_.cls ≠ "java/lang/invoke/MethodHandle" ∧ yX9_cut_.cls ≠ "java/lang/invoke/VarHandle" ∧ (parseMethodDescriptor yX9_cut_.desc).map (fun d => d.parameters.length) = some 1 := by decide +kernel
theorem gm_1805 : Cond.code yX9_cut_ cX9_cut_ 4 (some .int) ∈ GW := gm 1805 (by decide +kernel) (by decide +kernel)
theorem gm_1803 : Cond.instanceMethod yX9_cut_ ∈ GW := gm 1803 (by decide +kernel) (by decide +kernel)
theorem gm_1804 : Cond.selects "UncutTaleModel" yX9_cut_ yX9_cut_ ∈ GW := gm 1804 (by decide +kernel) (by decide +kernel)
theorem mk_X9_cut_ : MK yX9_cut_ cX9_cut_ 4 (some .int) := ⟨gm_1805, gm_1803, gm_1804, gm_117⟩
theorem gm_1802 : Cond.methodLink "UncutTaleLaw" 100 yX9_cut_ ∈ GW := gm 1802 (by decide +kernel) (by decide +kernel)
theorem hd_X8_sharp : yX8_sharp.cls ≠ "java/lang/invoke/MethodHandle" ∧ yX8_sharp.cls ≠ "java/lang/invoke/VarHandle" ∧ (parseMethodDescriptor yX8_sharp.desc).map (fun d => d.parameters.length) = some 0 := by decide +kernel
theorem gm_892 : Cond.code yX8_sharp cX8_sharp 1 (some .int) ∈ GW := gm 892 (by decide +kernel) (by decide +kernel)
theorem gm_890 : Cond.instanceMethod yX8_sharp ∈ GW := gm 890 (by decide +kernel) (by decide +kernel)
theorem gm_891 : Cond.selects "UncutTale" yX8_sharp yX8_sharp ∈ GW := gm 891 (by decide +kernel) (by decide +kernel)
theorem mk_X8_sharp : MK yX8_sharp cX8_sharp 1 (some .int) := ⟨gm_892, gm_890, gm_891, gm_108⟩
theorem gm_889 : Cond.methodLink "UncutTaleLaw" 101 yX8_sharp ∈ GW := gm 889 (by decide +kernel) (by decide +kernel)
theorem hd_X9_sharp : yX9_sharp.cls ≠ "java/lang/invoke/MethodHandle" ∧ yX9_sharp.cls ≠ "java/lang/invoke/VarHandle" ∧ (parseMethodDescriptor yX9_sharp.desc).map (fun d => d.parameters.length) = some 0 := by decide +kernel
theorem gm_1809 : Cond.code yX9_sharp cX9_sharp 1 (some .int) ∈ GW := gm 1809 (by decide +kernel) (by decide +kernel)
theorem gm_1807 : Cond.instanceMethod yX9_sharp ∈ GW := gm 1807 (by decide +kernel) (by decide +kernel)
theorem gm_1808 : Cond.selects "UncutTaleModel" yX9_sharp yX9_sharp ∈ GW := gm 1808 (by decide +kernel) (by decide +kernel)
theorem mk_X9_sharp : MK yX9_sharp cX9_sharp 1 (some .int) := ⟨gm_1809, gm_1807, gm_1808, gm_117⟩
theorem gm_1806 : Cond.methodLink "UncutTaleLaw" 104 yX9_sharp ∈ GW := gm 1806 (by decide +kernel) (by decide +kernel)
theorem hd_X8_uncut : yX8_uncut.cls ≠ "java/lang/invoke/MethodHandle" ∧ yX8_uncut.cls ≠ "java/lang/invoke/VarHandle" ∧ (parseMethodDescriptor yX8_uncut.desc).map (fun d => d.parameters.length) = some 0 := by decide +kernel
theorem gm_908 : Cond.code yX8_uncut cX8_uncut 1 (some .int) ∈ GW := gm 908 (by decide +kernel) (by decide +kernel)
theorem gm_906 : Cond.instanceMethod yX8_uncut ∈ GW := gm 906 (by decide +kernel) (by decide +kernel)
theorem gm_907 : Cond.selects "UncutTale" yX8_uncut yX8_uncut ∈ GW := gm 907 (by decide +kernel) (by decide +kernel)
theorem mk_X8_uncut : MK yX8_uncut cX8_uncut 1 (some .int) := ⟨gm_908, gm_906, gm_907, gm_108⟩
theorem gm_905 : Cond.methodLink "UncutTaleLaw" 105 yX8_uncut ∈ GW := gm 905 (by decide +kernel) (by decide +kernel)
theorem hd_X9_uncut : yX9_uncut.cls ≠ "java/lang/invoke/MethodHandle" ∧ yX9_uncut.cls ≠ "java/lang/invoke/VarHandle" ∧ (parseMethodDescriptor yX9_uncut.desc).map (fun d => d.parameters.length) = some 0 := by decide +kernel
theorem gm_1813 : Cond.code yX9_uncut cX9_uncut 1 (some .int) ∈ GW := gm 1813 (by decide +kernel) (by decide +kernel)
theorem gm_1811 : Cond.instanceMethod yX9_uncut ∈ GW := gm 1811 (by decide +kernel) (by decide +kernel)
theorem gm_1812 : Cond.selects "UncutTaleModel" yX9_uncut yX9_uncut ∈ GW := gm 1812 (by decide +kernel) (by decide +kernel)
theorem mk_X9_uncut : MK yX9_uncut cX9_uncut 1 (some .int) := ⟨gm_1813, gm_1811, gm_1812, gm_117⟩
theorem gm_1810 : Cond.methodLink "UncutTaleLaw" 108 yX9_uncut ∈ GW := gm 1810 (by decide +kernel) (by decide +kernel)
theorem hd_X8_done : yX8_done.cls ≠ "java/lang/invoke/MethodHandle" ∧ yX8_done.cls ≠ "java/lang/invoke/VarHandle" ∧ (parseMethodDescriptor yX8_done.desc).map (fun d => d.parameters.length) = some 0 := by decide +kernel
theorem gm_920 : Cond.code yX8_done cX8_done 2 (some .int) ∈ GW := gm 920 (by decide +kernel) (by decide +kernel)
theorem gm_918 : Cond.instanceMethod yX8_done ∈ GW := gm 918 (by decide +kernel) (by decide +kernel)
theorem gm_919 : Cond.selects "UncutTale" yX8_done yX8_done ∈ GW := gm 919 (by decide +kernel) (by decide +kernel)
theorem mk_X8_done : MK yX8_done cX8_done 2 (some .int) := ⟨gm_920, gm_918, gm_919, gm_108⟩
theorem gm_917 : Cond.methodLink "UncutTaleLaw" 109 yX8_done ∈ GW := gm 917 (by decide +kernel) (by decide +kernel)
theorem hd_X9_done : yX9_done.cls ≠ "java/lang/invoke/MethodHandle" ∧ yX9_done.cls ≠ "java/lang/invoke/VarHandle" ∧ (parseMethodDescriptor yX9_done.desc).map (fun d => d.parameters.length) = some 0 := by decide +kernel
theorem gm_1821 : Cond.code yX9_done cX9_done 2 (some .int) ∈ GW := gm 1821 (by decide +kernel) (by decide +kernel)
theorem gm_1819 : Cond.instanceMethod yX9_done ∈ GW := gm 1819 (by decide +kernel) (by decide +kernel)
theorem gm_1820 : Cond.selects "UncutTaleModel" yX9_done yX9_done ∈ GW := gm 1820 (by decide +kernel) (by decide +kernel)
theorem mk_X9_done : MK yX9_done cX9_done 2 (some .int) := ⟨gm_1821, gm_1819, gm_1820, gm_117⟩
theorem gm_1818 : Cond.methodLink "UncutTaleLaw" 112 yX9_done ∈ GW := gm 1818 (by decide +kernel) (by decide +kernel)
theorem hd_X8_rush : yX8_rush.cls ≠ "java/lang/invoke/MethodHandle" ∧ yX8_rush.cls ≠ "java/lang/invoke/VarHandle" ∧ (parseMethodDescriptor yX8_rush.desc).map (fun d => d.parameters.length) = some 0 := by decide +kernel
theorem gm_924 : Cond.code yX8_rush cX8_rush 3 (some .int) ∈ GW := gm 924 (by decide +kernel) (by decide +kernel)
theorem gm_922 : Cond.instanceMethod yX8_rush ∈ GW := gm 922 (by decide +kernel) (by decide +kernel)
theorem gm_923 : Cond.selects "UncutTale" yX8_rush yX8_rush ∈ GW := gm 923 (by decide +kernel) (by decide +kernel)
theorem mk_X8_rush : MK yX8_rush cX8_rush 3 (some .int) := ⟨gm_924, gm_922, gm_923, gm_108⟩
theorem gm_921 : Cond.methodLink "UncutTaleLaw" 113 yX8_rush ∈ GW := gm 921 (by decide +kernel) (by decide +kernel)
theorem hd_X9_rush : yX9_rush.cls ≠ "java/lang/invoke/MethodHandle" ∧ yX9_rush.cls ≠ "java/lang/invoke/VarHandle" ∧ (parseMethodDescriptor yX9_rush.desc).map (fun d => d.parameters.length) = some 0 := by decide +kernel
theorem gm_1825 : Cond.code yX9_rush cX9_rush 3 (some .int) ∈ GW := gm 1825 (by decide +kernel) (by decide +kernel)
theorem gm_1823 : Cond.instanceMethod yX9_rush ∈ GW := gm 1823 (by decide +kernel) (by decide +kernel)
theorem gm_1824 : Cond.selects "UncutTaleModel" yX9_rush yX9_rush ∈ GW := gm 1824 (by decide +kernel) (by decide +kernel)
theorem mk_X9_rush : MK yX9_rush cX9_rush 3 (some .int) := ⟨gm_1825, gm_1823, gm_1824, gm_117⟩
theorem gm_1822 : Cond.methodLink "UncutTaleLaw" 116 yX9_rush ∈ GW := gm 1822 (by decide +kernel) (by decide +kernel)
theorem hd_X8_with : yX8_with.cls ≠ "java/lang/invoke/MethodHandle" ∧ yX8_with.cls ≠ "java/lang/invoke/VarHandle" ∧ (parseMethodDescriptor yX8_with.desc).map (fun d => d.parameters.length) = some 1 := by decide +kernel
theorem gm_933 : Cond.code yX8_with cX8_with 4 (some .int) ∈ GW := gm 933 (by decide +kernel) (by decide +kernel)
theorem gm_931 : Cond.instanceMethod yX8_with ∈ GW := gm 931 (by decide +kernel) (by decide +kernel)
theorem gm_932 : Cond.selects "UncutTale" yX8_with yX8_with ∈ GW := gm 932 (by decide +kernel) (by decide +kernel)
theorem mk_X8_with : MK yX8_with cX8_with 4 (some .int) := ⟨gm_933, gm_931, gm_932, gm_108⟩
theorem gm_930 : Cond.methodLink "UncutTaleLaw" 117 yX8_with ∈ GW := gm 930 (by decide +kernel) (by decide +kernel)
theorem hd_X9_with : yX9_with.cls ≠ "java/lang/invoke/MethodHandle" ∧ yX9_with.cls ≠ "java/lang/invoke/VarHandle" ∧ (parseMethodDescriptor yX9_with.desc).map (fun d => d.parameters.length) = some 1 := by decide +kernel
theorem gm_1833 : Cond.code yX9_with cX9_with 4 (some .int) ∈ GW := gm 1833 (by decide +kernel) (by decide +kernel)
theorem gm_1831 : Cond.instanceMethod yX9_with ∈ GW := gm 1831 (by decide +kernel) (by decide +kernel)
theorem gm_1832 : Cond.selects "UncutTaleModel" yX9_with yX9_with ∈ GW := gm 1832 (by decide +kernel) (by decide +kernel)
theorem mk_X9_with : MK yX9_with cX9_with 4 (some .int) := ⟨gm_1833, gm_1831, gm_1832, gm_117⟩
theorem gm_1830 : Cond.methodLink "UncutTaleLaw" 120 yX9_with ∈ GW := gm 1830 (by decide +kernel) (by decide +kernel)
theorem hd_X8_charms : yX8_charms.cls ≠ "java/lang/invoke/MethodHandle" ∧ yX8_charms.cls ≠ "java/lang/invoke/VarHandle" ∧ (parseMethodDescriptor yX8_charms.desc).map (fun d => d.parameters.length) = some 0 := by decide +kernel
theorem gm_937 : Cond.code yX8_charms cX8_charms 4 (some .int) ∈ GW := gm 937 (by decide +kernel) (by decide +kernel)
theorem gm_935 : Cond.instanceMethod yX8_charms ∈ GW := gm 935 (by decide +kernel) (by decide +kernel)
theorem gm_936 : Cond.selects "UncutTale" yX8_charms yX8_charms ∈ GW := gm 936 (by decide +kernel) (by decide +kernel)
theorem mk_X8_charms : MK yX8_charms cX8_charms 4 (some .int) := ⟨gm_937, gm_935, gm_936, gm_108⟩
theorem gm_934 : Cond.methodLink "UncutTaleLaw" 121 yX8_charms ∈ GW := gm 934 (by decide +kernel) (by decide +kernel)
theorem hd_X9_charms : yX9_charms.cls ≠ "java/lang/invoke/MethodHandle" ∧ yX9_charms.cls ≠ "java/lang/invoke/VarHandle" ∧ (parseMethodDescriptor yX9_charms.desc).map (fun d => d.parameters.length) = some 0 := by decide +kernel
theorem gm_1837 : Cond.code yX9_charms cX9_charms 3 (some .int) ∈ GW := gm 1837 (by decide +kernel) (by decide +kernel)
theorem gm_1835 : Cond.instanceMethod yX9_charms ∈ GW := gm 1835 (by decide +kernel) (by decide +kernel)
theorem gm_1836 : Cond.selects "UncutTaleModel" yX9_charms yX9_charms ∈ GW := gm 1836 (by decide +kernel) (by decide +kernel)
theorem mk_X9_charms : MK yX9_charms cX9_charms 3 (some .int) := ⟨gm_1837, gm_1835, gm_1836, gm_117⟩
theorem gm_1834 : Cond.methodLink "UncutTaleLaw" 124 yX9_charms ∈ GW := gm 1834 (by decide +kernel) (by decide +kernel)
theorem hd_X8_best : yX8_best.cls ≠ "java/lang/invoke/MethodHandle" ∧ yX8_best.cls ≠ "java/lang/invoke/VarHandle" ∧ (parseMethodDescriptor yX8_best.desc).map (fun d => d.parameters.length) = some 1 := by decide +kernel
theorem gm_876 : Cond.code yX8_best cX8_best 4 (some .int) ∈ GW := gm 876 (by decide +kernel) (by decide +kernel)
theorem gm_874 : Cond.instanceMethod yX8_best ∈ GW := gm 874 (by decide +kernel) (by decide +kernel)
theorem gm_875 : Cond.selects "UncutTale" yX8_best yX8_best ∈ GW := gm 875 (by decide +kernel) (by decide +kernel)
theorem mk_X8_best : MK yX8_best cX8_best 4 (some .int) := ⟨gm_876, gm_874, gm_875, gm_108⟩
theorem gm_873 : Cond.methodLink "UncutTaleLaw" 125 yX8_best ∈ GW := gm 873 (by decide +kernel) (by decide +kernel)
theorem hd_X9_best : yX9_best.cls ≠ "java/lang/invoke/MethodHandle" ∧ yX9_best.cls ≠ "java/lang/invoke/VarHandle" ∧ (parseMethodDescriptor yX9_best.desc).map (fun d => d.parameters.length) = some 1 := by decide +kernel
theorem gm_1841 : Cond.code yX9_best cX9_best 4 (some .int) ∈ GW := gm 1841 (by decide +kernel) (by decide +kernel)
theorem gm_1839 : Cond.instanceMethod yX9_best ∈ GW := gm 1839 (by decide +kernel) (by decide +kernel)
theorem gm_1840 : Cond.selects "UncutTaleModel" yX9_best yX9_best ∈ GW := gm 1840 (by decide +kernel) (by decide +kernel)
theorem mk_X9_best : MK yX9_best cX9_best 4 (some .int) := ⟨gm_1841, gm_1839, gm_1840, gm_117⟩
theorem gm_1838 : Cond.methodLink "UncutTaleLaw" 128 yX9_best ∈ GW := gm 1838 (by decide +kernel) (by decide +kernel)
theorem hd_X8_peak : yX8_peak.cls ≠ "java/lang/invoke/MethodHandle" ∧ yX8_peak.cls ≠ "java/lang/invoke/VarHandle" ∧ (parseMethodDescriptor yX8_peak.desc).map (fun d => d.parameters.length) = some 0 := by decide +kernel
theorem gm_941 : Cond.code yX8_peak cX8_peak 5 (some .int) ∈ GW := gm 941 (by decide +kernel) (by decide +kernel)
theorem gm_939 : Cond.instanceMethod yX8_peak ∈ GW := gm 939 (by decide +kernel) (by decide +kernel)
theorem gm_940 : Cond.selects "UncutTale" yX8_peak yX8_peak ∈ GW := gm 940 (by decide +kernel) (by decide +kernel)
theorem mk_X8_peak : MK yX8_peak cX8_peak 5 (some .int) := ⟨gm_941, gm_939, gm_940, gm_108⟩
theorem gm_938 : Cond.methodLink "UncutTaleLaw" 129 yX8_peak ∈ GW := gm 938 (by decide +kernel) (by decide +kernel)
theorem hd_X9_peak : yX9_peak.cls ≠ "java/lang/invoke/MethodHandle" ∧ yX9_peak.cls ≠ "java/lang/invoke/VarHandle" ∧ (parseMethodDescriptor yX9_peak.desc).map (fun d => d.parameters.length) = some 0 := by decide +kernel
theorem gm_1845 : Cond.code yX9_peak cX9_peak 3 (some .int) ∈ GW := gm 1845 (by decide +kernel) (by decide +kernel)
theorem gm_1843 : Cond.instanceMethod yX9_peak ∈ GW := gm 1843 (by decide +kernel) (by decide +kernel)
theorem gm_1844 : Cond.selects "UncutTaleModel" yX9_peak yX9_peak ∈ GW := gm 1844 (by decide +kernel) (by decide +kernel)
theorem mk_X9_peak : MK yX9_peak cX9_peak 3 (some .int) := ⟨gm_1845, gm_1843, gm_1844, gm_117⟩
theorem gm_1842 : Cond.methodLink "UncutTaleLaw" 132 yX9_peak ∈ GW := gm 1842 (by decide +kernel) (by decide +kernel)
theorem hd_X8_first : yX8_first.cls ≠ "java/lang/invoke/MethodHandle" ∧ yX8_first.cls ≠ "java/lang/invoke/VarHandle" ∧ (parseMethodDescriptor yX8_first.desc).map (fun d => d.parameters.length) = some 0 := by decide +kernel
theorem gm_945 : Cond.code yX8_first cX8_first 2 (some .int) ∈ GW := gm 945 (by decide +kernel) (by decide +kernel)
theorem gm_943 : Cond.instanceMethod yX8_first ∈ GW := gm 943 (by decide +kernel) (by decide +kernel)
theorem gm_944 : Cond.selects "UncutTale" yX8_first yX8_first ∈ GW := gm 944 (by decide +kernel) (by decide +kernel)
theorem mk_X8_first : MK yX8_first cX8_first 2 (some .int) := ⟨gm_945, gm_943, gm_944, gm_108⟩
theorem gm_942 : Cond.methodLink "UncutTaleLaw" 133 yX8_first ∈ GW := gm 942 (by decide +kernel) (by decide +kernel)
theorem hd_X9_first : yX9_first.cls ≠ "java/lang/invoke/MethodHandle" ∧ yX9_first.cls ≠ "java/lang/invoke/VarHandle" ∧ (parseMethodDescriptor yX9_first.desc).map (fun d => d.parameters.length) = some 0 := by decide +kernel
theorem gm_1849 : Cond.code yX9_first cX9_first 2 (some .int) ∈ GW := gm 1849 (by decide +kernel) (by decide +kernel)
theorem gm_1847 : Cond.instanceMethod yX9_first ∈ GW := gm 1847 (by decide +kernel) (by decide +kernel)
theorem gm_1848 : Cond.selects "UncutTaleModel" yX9_first yX9_first ∈ GW := gm 1848 (by decide +kernel) (by decide +kernel)
theorem mk_X9_first : MK yX9_first cX9_first 2 (some .int) := ⟨gm_1849, gm_1847, gm_1848, gm_117⟩
theorem gm_1846 : Cond.methodLink "UncutTaleLaw" 136 yX9_first ∈ GW := gm 1846 (by decide +kernel) (by decide +kernel)
theorem hd_X8_quiet : yX8_quiet.cls ≠ "java/lang/invoke/MethodHandle" ∧ yX8_quiet.cls ≠ "java/lang/invoke/VarHandle" ∧ (parseMethodDescriptor yX8_quiet.desc).map (fun d => d.parameters.length) = some 0 := by decide +kernel
theorem gm_949 : Cond.code yX8_quiet cX8_quiet 3 (some .int) ∈ GW := gm 949 (by decide +kernel) (by decide +kernel)
theorem gm_947 : Cond.instanceMethod yX8_quiet ∈ GW := gm 947 (by decide +kernel) (by decide +kernel)
theorem gm_948 : Cond.selects "UncutTale" yX8_quiet yX8_quiet ∈ GW := gm 948 (by decide +kernel) (by decide +kernel)
theorem mk_X8_quiet : MK yX8_quiet cX8_quiet 3 (some .int) := ⟨gm_949, gm_947, gm_948, gm_108⟩
theorem gm_946 : Cond.methodLink "UncutTaleLaw" 137 yX8_quiet ∈ GW := gm 946 (by decide +kernel) (by decide +kernel)
theorem hd_X9_quiet : yX9_quiet.cls ≠ "java/lang/invoke/MethodHandle" ∧ yX9_quiet.cls ≠ "java/lang/invoke/VarHandle" ∧ (parseMethodDescriptor yX9_quiet.desc).map (fun d => d.parameters.length) = some 0 := by decide +kernel
theorem gm_1853 : Cond.code yX9_quiet cX9_quiet 3 (some .int) ∈ GW := gm 1853 (by decide +kernel) (by decide +kernel)
theorem gm_1851 : Cond.instanceMethod yX9_quiet ∈ GW := gm 1851 (by decide +kernel) (by decide +kernel)
theorem gm_1852 : Cond.selects "UncutTaleModel" yX9_quiet yX9_quiet ∈ GW := gm 1852 (by decide +kernel) (by decide +kernel)
theorem mk_X9_quiet : MK yX9_quiet cX9_quiet 3 (some .int) := ⟨gm_1853, gm_1851, gm_1852, gm_117⟩
theorem gm_1850 : Cond.methodLink "UncutTaleLaw" 140 yX9_quiet ∈ GW := gm 1850 (by decide +kernel) (by decide +kernel)
theorem hd_X8_lone : yX8_lone.cls ≠ "java/lang/invoke/MethodHandle" ∧ yX8_lone.cls ≠ "java/lang/invoke/VarHandle" ∧ (parseMethodDescriptor yX8_lone.desc).map (fun d => d.parameters.length) = some 1 := by decide +kernel
theorem gm_880 : Cond.code yX8_lone cX8_lone 6 (some .int) ∈ GW := gm 880 (by decide +kernel) (by decide +kernel)
theorem gm_878 : Cond.instanceMethod yX8_lone ∈ GW := gm 878 (by decide +kernel) (by decide +kernel)
theorem gm_879 : Cond.selects "UncutTale" yX8_lone yX8_lone ∈ GW := gm 879 (by decide +kernel) (by decide +kernel)
theorem mk_X8_lone : MK yX8_lone cX8_lone 6 (some .int) := ⟨gm_880, gm_878, gm_879, gm_108⟩
theorem gm_877 : Cond.methodLink "UncutTaleLaw" 141 yX8_lone ∈ GW := gm 877 (by decide +kernel) (by decide +kernel)
theorem hd_X9_lone : yX9_lone.cls ≠ "java/lang/invoke/MethodHandle" ∧ yX9_lone.cls ≠ "java/lang/invoke/VarHandle" ∧ (parseMethodDescriptor yX9_lone.desc).map (fun d => d.parameters.length) = some 1 := by decide +kernel
theorem gm_1857 : Cond.code yX9_lone cX9_lone 4 (some .int) ∈ GW := gm 1857 (by decide +kernel) (by decide +kernel)
theorem gm_1855 : Cond.instanceMethod yX9_lone ∈ GW := gm 1855 (by decide +kernel) (by decide +kernel)
theorem gm_1856 : Cond.selects "UncutTaleModel" yX9_lone yX9_lone ∈ GW := gm 1856 (by decide +kernel) (by decide +kernel)
theorem mk_X9_lone : MK yX9_lone cX9_lone 4 (some .int) := ⟨gm_1857, gm_1855, gm_1856, gm_117⟩
theorem gm_1854 : Cond.methodLink "UncutTaleLaw" 144 yX9_lone ∈ GW := gm 1854 (by decide +kernel) (by decide +kernel)
theorem hd_X8_stalest : yX8_stalest.cls ≠ "java/lang/invoke/MethodHandle" ∧ yX8_stalest.cls ≠ "java/lang/invoke/VarHandle" ∧ (parseMethodDescriptor yX8_stalest.desc).map (fun d => d.parameters.length) = some 1 := by decide +kernel
theorem gm_884 : Cond.code yX8_stalest cX8_stalest 7 (some .int) ∈ GW := gm 884 (by decide +kernel) (by decide +kernel)
theorem gm_882 : Cond.instanceMethod yX8_stalest ∈ GW := gm 882 (by decide +kernel) (by decide +kernel)
theorem gm_883 : Cond.selects "UncutTale" yX8_stalest yX8_stalest ∈ GW := gm 883 (by decide +kernel) (by decide +kernel)
theorem mk_X8_stalest : MK yX8_stalest cX8_stalest 7 (some .int) := ⟨gm_884, gm_882, gm_883, gm_108⟩
theorem gm_881 : Cond.methodLink "UncutTaleLaw" 145 yX8_stalest ∈ GW := gm 881 (by decide +kernel) (by decide +kernel)
theorem hd_X9_stalest : yX9_stalest.cls ≠ "java/lang/invoke/MethodHandle" ∧ yX9_stalest.cls ≠ "java/lang/invoke/VarHandle" ∧ (parseMethodDescriptor yX9_stalest.desc).map (fun d => d.parameters.length) = some 1 := by decide +kernel
theorem gm_1861 : Cond.code yX9_stalest cX9_stalest 4 (some .int) ∈ GW := gm 1861 (by decide +kernel) (by decide +kernel)
theorem gm_1859 : Cond.instanceMethod yX9_stalest ∈ GW := gm 1859 (by decide +kernel) (by decide +kernel)
theorem gm_1860 : Cond.selects "UncutTaleModel" yX9_stalest yX9_stalest ∈ GW := gm 1860 (by decide +kernel) (by decide +kernel)
theorem mk_X9_stalest : MK yX9_stalest cX9_stalest 4 (some .int) := ⟨gm_1861, gm_1859, gm_1860, gm_117⟩
theorem gm_1858 : Cond.methodLink "UncutTaleLaw" 148 yX9_stalest ∈ GW := gm 1858 (by decide +kernel) (by decide +kernel)
theorem hd_X8_pieces : yX8_pieces.cls ≠ "java/lang/invoke/MethodHandle" ∧ yX8_pieces.cls ≠ "java/lang/invoke/VarHandle" ∧ (parseMethodDescriptor yX8_pieces.desc).map (fun d => d.parameters.length) = some 0 := by decide +kernel
theorem gm_697 : Cond.code yX8_pieces cX8_pieces 4 (some .int) ∈ GW := gm 697 (by decide +kernel) (by decide +kernel)
theorem gm_695 : Cond.instanceMethod yX8_pieces ∈ GW := gm 695 (by decide +kernel) (by decide +kernel)
theorem gm_696 : Cond.selects "UncutTale" yX8_pieces yX8_pieces ∈ GW := gm 696 (by decide +kernel) (by decide +kernel)
theorem mk_X8_pieces : MK yX8_pieces cX8_pieces 4 (some .int) := ⟨gm_697, gm_695, gm_696, gm_108⟩
theorem gm_694 : Cond.methodLink "UncutTaleLaw" 149 yX8_pieces ∈ GW := gm 694 (by decide +kernel) (by decide +kernel)
theorem hd_X9_pieces : yX9_pieces.cls ≠ "java/lang/invoke/MethodHandle" ∧ yX9_pieces.cls ≠ "java/lang/invoke/VarHandle" ∧ (parseMethodDescriptor yX9_pieces.desc).map (fun d => d.parameters.length) = some 0 := by decide +kernel
theorem gm_1865 : Cond.code yX9_pieces cX9_pieces 7 (some .int) ∈ GW := gm 1865 (by decide +kernel) (by decide +kernel)
theorem gm_1863 : Cond.instanceMethod yX9_pieces ∈ GW := gm 1863 (by decide +kernel) (by decide +kernel)
theorem gm_1864 : Cond.selects "UncutTaleModel" yX9_pieces yX9_pieces ∈ GW := gm 1864 (by decide +kernel) (by decide +kernel)
theorem mk_X9_pieces : MK yX9_pieces cX9_pieces 7 (some .int) := ⟨gm_1865, gm_1863, gm_1864, gm_117⟩
theorem gm_1862 : Cond.methodLink "UncutTaleLaw" 152 yX9_pieces ∈ GW := gm 1862 (by decide +kernel) (by decide +kernel)
theorem hd_X8_lost : yX8_lost.cls ≠ "java/lang/invoke/MethodHandle" ∧ yX8_lost.cls ≠ "java/lang/invoke/VarHandle" ∧ (parseMethodDescriptor yX8_lost.desc).map (fun d => d.parameters.length) = some 0 := by decide +kernel
theorem gm_953 : Cond.code yX8_lost cX8_lost 4 (some .int) ∈ GW := gm 953 (by decide +kernel) (by decide +kernel)
theorem gm_951 : Cond.instanceMethod yX8_lost ∈ GW := gm 951 (by decide +kernel) (by decide +kernel)
theorem gm_952 : Cond.selects "UncutTale" yX8_lost yX8_lost ∈ GW := gm 952 (by decide +kernel) (by decide +kernel)
theorem mk_X8_lost : MK yX8_lost cX8_lost 4 (some .int) := ⟨gm_953, gm_951, gm_952, gm_108⟩
theorem gm_950 : Cond.methodLink "UncutTaleLaw" 153 yX8_lost ∈ GW := gm 950 (by decide +kernel) (by decide +kernel)
theorem hd_X9_lost : yX9_lost.cls ≠ "java/lang/invoke/MethodHandle" ∧ yX9_lost.cls ≠ "java/lang/invoke/VarHandle" ∧ (parseMethodDescriptor yX9_lost.desc).map (fun d => d.parameters.length) = some 0 := by decide +kernel
theorem gm_1869 : Cond.code yX9_lost cX9_lost 3 (some .int) ∈ GW := gm 1869 (by decide +kernel) (by decide +kernel)
theorem gm_1867 : Cond.instanceMethod yX9_lost ∈ GW := gm 1867 (by decide +kernel) (by decide +kernel)
theorem gm_1868 : Cond.selects "UncutTaleModel" yX9_lost yX9_lost ∈ GW := gm 1868 (by decide +kernel) (by decide +kernel)
theorem mk_X9_lost : MK yX9_lost cX9_lost 3 (some .int) := ⟨gm_1869, gm_1867, gm_1868, gm_117⟩
theorem gm_1866 : Cond.methodLink "UncutTaleLaw" 156 yX9_lost ∈ GW := gm 1866 (by decide +kernel) (by decide +kernel)
theorem hd_X8_knives : yX8_knives.cls ≠ "java/lang/invoke/MethodHandle" ∧ yX8_knives.cls ≠ "java/lang/invoke/VarHandle" ∧ (parseMethodDescriptor yX8_knives.desc).map (fun d => d.parameters.length) = some 1 := by decide +kernel
theorem gm_710 : Cond.code yX8_knives cX8_knives 4 (some .int) ∈ GW := gm 710 (by decide +kernel) (by decide +kernel)
theorem gm_708 : Cond.instanceMethod yX8_knives ∈ GW := gm 708 (by decide +kernel) (by decide +kernel)
theorem gm_709 : Cond.selects "UncutTale" yX8_knives yX8_knives ∈ GW := gm 709 (by decide +kernel) (by decide +kernel)
theorem mk_X8_knives : MK yX8_knives cX8_knives 4 (some .int) := ⟨gm_710, gm_708, gm_709, gm_108⟩
theorem gm_707 : Cond.methodLink "UncutTaleLaw" 157 yX8_knives ∈ GW := gm 707 (by decide +kernel) (by decide +kernel)
theorem hd_X9_knives : yX9_knives.cls ≠ "java/lang/invoke/MethodHandle" ∧ yX9_knives.cls ≠ "java/lang/invoke/VarHandle" ∧ (parseMethodDescriptor yX9_knives.desc).map (fun d => d.parameters.length) = some 1 := by decide +kernel
theorem gm_1873 : Cond.code yX9_knives cX9_knives 4 (some .int) ∈ GW := gm 1873 (by decide +kernel) (by decide +kernel)
theorem gm_1871 : Cond.instanceMethod yX9_knives ∈ GW := gm 1871 (by decide +kernel) (by decide +kernel)
theorem gm_1872 : Cond.selects "UncutTaleModel" yX9_knives yX9_knives ∈ GW := gm 1872 (by decide +kernel) (by decide +kernel)
theorem mk_X9_knives : MK yX9_knives cX9_knives 4 (some .int) := ⟨gm_1873, gm_1871, gm_1872, gm_117⟩
theorem gm_1870 : Cond.methodLink "UncutTaleLaw" 160 yX9_knives ∈ GW := gm 1870 (by decide +kernel) (by decide +kernel)
theorem hd_X8_idle : yX8_idle.cls ≠ "java/lang/invoke/MethodHandle" ∧ yX8_idle.cls ≠ "java/lang/invoke/VarHandle" ∧ (parseMethodDescriptor yX8_idle.desc).map (fun d => d.parameters.length) = some 0 := by decide +kernel
theorem gm_904 : Cond.code yX8_idle cX8_idle 4 (some .int) ∈ GW := gm 904 (by decide +kernel) (by decide +kernel)
theorem gm_902 : Cond.instanceMethod yX8_idle ∈ GW := gm 902 (by decide +kernel) (by decide +kernel)
theorem gm_903 : Cond.selects "UncutTale" yX8_idle yX8_idle ∈ GW := gm 903 (by decide +kernel) (by decide +kernel)
theorem mk_X8_idle : MK yX8_idle cX8_idle 4 (some .int) := ⟨gm_904, gm_902, gm_903, gm_108⟩
theorem gm_901 : Cond.methodLink "UncutTaleLaw" 161 yX8_idle ∈ GW := gm 901 (by decide +kernel) (by decide +kernel)
theorem hd_X9_idle : yX9_idle.cls ≠ "java/lang/invoke/MethodHandle" ∧ yX9_idle.cls ≠ "java/lang/invoke/VarHandle" ∧ (parseMethodDescriptor yX9_idle.desc).map (fun d => d.parameters.length) = some 0 := by decide +kernel
theorem gm_1877 : Cond.code yX9_idle cX9_idle 3 (some .int) ∈ GW := gm 1877 (by decide +kernel) (by decide +kernel)
theorem gm_1875 : Cond.instanceMethod yX9_idle ∈ GW := gm 1875 (by decide +kernel) (by decide +kernel)
theorem gm_1876 : Cond.selects "UncutTaleModel" yX9_idle yX9_idle ∈ GW := gm 1876 (by decide +kernel) (by decide +kernel)
theorem mk_X9_idle : MK yX9_idle cX9_idle 3 (some .int) := ⟨gm_1877, gm_1875, gm_1876, gm_117⟩
theorem gm_1874 : Cond.methodLink "UncutTaleLaw" 164 yX9_idle ∈ GW := gm 1874 (by decide +kernel) (by decide +kernel)
theorem hd_X8_few : yX8_few.cls ≠ "java/lang/invoke/MethodHandle" ∧ yX8_few.cls ≠ "java/lang/invoke/VarHandle" ∧ (parseMethodDescriptor yX8_few.desc).map (fun d => d.parameters.length) = some 0 := by decide +kernel
theorem gm_957 : Cond.code yX8_few cX8_few 1 (some .int) ∈ GW := gm 957 (by decide +kernel) (by decide +kernel)
theorem gm_955 : Cond.instanceMethod yX8_few ∈ GW := gm 955 (by decide +kernel) (by decide +kernel)
theorem gm_956 : Cond.selects "UncutTale" yX8_few yX8_few ∈ GW := gm 956 (by decide +kernel) (by decide +kernel)
theorem mk_X8_few : MK yX8_few cX8_few 1 (some .int) := ⟨gm_957, gm_955, gm_956, gm_108⟩
theorem gm_954 : Cond.methodLink "UncutTaleLaw" 165 yX8_few ∈ GW := gm 954 (by decide +kernel) (by decide +kernel)
theorem hd_X9_few : yX9_few.cls ≠ "java/lang/invoke/MethodHandle" ∧ yX9_few.cls ≠ "java/lang/invoke/VarHandle" ∧ (parseMethodDescriptor yX9_few.desc).map (fun d => d.parameters.length) = some 0 := by decide +kernel
theorem gm_1881 : Cond.code yX9_few cX9_few 1 (some .int) ∈ GW := gm 1881 (by decide +kernel) (by decide +kernel)
theorem gm_1879 : Cond.instanceMethod yX9_few ∈ GW := gm 1879 (by decide +kernel) (by decide +kernel)
theorem gm_1880 : Cond.selects "UncutTaleModel" yX9_few yX9_few ∈ GW := gm 1880 (by decide +kernel) (by decide +kernel)
theorem mk_X9_few : MK yX9_few cX9_few 1 (some .int) := ⟨gm_1881, gm_1879, gm_1880, gm_117⟩
theorem gm_1878 : Cond.methodLink "UncutTaleLaw" 168 yX9_few ∈ GW := gm 1878 (by decide +kernel) (by decide +kernel)
theorem hd_X8_fews : yX8_fews.cls ≠ "java/lang/invoke/MethodHandle" ∧ yX8_fews.cls ≠ "java/lang/invoke/VarHandle" ∧ (parseMethodDescriptor yX8_fews.desc).map (fun d => d.parameters.length) = some 0 := by decide +kernel
theorem gm_966 : Cond.code yX8_fews cX8_fews 1 (some .int) ∈ GW := gm 966 (by decide +kernel) (by decide +kernel)
theorem gm_964 : Cond.instanceMethod yX8_fews ∈ GW := gm 964 (by decide +kernel) (by decide +kernel)
theorem gm_965 : Cond.selects "UncutTale" yX8_fews yX8_fews ∈ GW := gm 965 (by decide +kernel) (by decide +kernel)
theorem mk_X8_fews : MK yX8_fews cX8_fews 1 (some .int) := ⟨gm_966, gm_964, gm_965, gm_108⟩
theorem gm_963 : Cond.methodLink "UncutTaleLaw" 169 yX8_fews ∈ GW := gm 963 (by decide +kernel) (by decide +kernel)
theorem hd_X9_fews : yX9_fews.cls ≠ "java/lang/invoke/MethodHandle" ∧ yX9_fews.cls ≠ "java/lang/invoke/VarHandle" ∧ (parseMethodDescriptor yX9_fews.desc).map (fun d => d.parameters.length) = some 0 := by decide +kernel
theorem gm_1893 : Cond.code yX9_fews cX9_fews 1 (some .int) ∈ GW := gm 1893 (by decide +kernel) (by decide +kernel)
theorem gm_1891 : Cond.instanceMethod yX9_fews ∈ GW := gm 1891 (by decide +kernel) (by decide +kernel)
theorem gm_1892 : Cond.selects "UncutTaleModel" yX9_fews yX9_fews ∈ GW := gm 1892 (by decide +kernel) (by decide +kernel)
theorem mk_X9_fews : MK yX9_fews cX9_fews 1 (some .int) := ⟨gm_1893, gm_1891, gm_1892, gm_117⟩
theorem gm_1890 : Cond.methodLink "UncutTaleLaw" 172 yX9_fews ∈ GW := gm 1890 (by decide +kernel) (by decide +kernel)
theorem hd_X8_worth : yX8_worth.cls ≠ "java/lang/invoke/MethodHandle" ∧ yX8_worth.cls ≠ "java/lang/invoke/VarHandle" ∧ (parseMethodDescriptor yX8_worth.desc).map (fun d => d.parameters.length) = some 1 := by decide +kernel
theorem gm_970 : Cond.code yX8_worth cX8_worth 2 (some .int) ∈ GW := gm 970 (by decide +kernel) (by decide +kernel)
theorem gm_968 : Cond.instanceMethod yX8_worth ∈ GW := gm 968 (by decide +kernel) (by decide +kernel)
theorem gm_969 : Cond.selects "UncutTale" yX8_worth yX8_worth ∈ GW := gm 969 (by decide +kernel) (by decide +kernel)
theorem mk_X8_worth : MK yX8_worth cX8_worth 2 (some .int) := ⟨gm_970, gm_968, gm_969, gm_108⟩
theorem gm_967 : Cond.methodLink "UncutTaleLaw" 173 yX8_worth ∈ GW := gm 967 (by decide +kernel) (by decide +kernel)
theorem hd_X9_worth : yX9_worth.cls ≠ "java/lang/invoke/MethodHandle" ∧ yX9_worth.cls ≠ "java/lang/invoke/VarHandle" ∧ (parseMethodDescriptor yX9_worth.desc).map (fun d => d.parameters.length) = some 1 := by decide +kernel
theorem gm_1897 : Cond.code yX9_worth cX9_worth 2 (some .int) ∈ GW := gm 1897 (by decide +kernel) (by decide +kernel)
theorem gm_1895 : Cond.instanceMethod yX9_worth ∈ GW := gm 1895 (by decide +kernel) (by decide +kernel)
theorem gm_1896 : Cond.selects "UncutTaleModel" yX9_worth yX9_worth ∈ GW := gm 1896 (by decide +kernel) (by decide +kernel)
theorem mk_X9_worth : MK yX9_worth cX9_worth 2 (some .int) := ⟨gm_1897, gm_1895, gm_1896, gm_117⟩
theorem gm_1894 : Cond.methodLink "UncutTaleLaw" 176 yX9_worth ∈ GW := gm 1894 (by decide +kernel) (by decide +kernel)
theorem hd_X8_share : yX8_share.cls ≠ "java/lang/invoke/MethodHandle" ∧ yX8_share.cls ≠ "java/lang/invoke/VarHandle" ∧ (parseMethodDescriptor yX8_share.desc).map (fun d => d.parameters.length) = some 2 := by decide +kernel
theorem gm_982 : Cond.code yX8_share cX8_share 9 (some .int) ∈ GW := gm 982 (by decide +kernel) (by decide +kernel)
theorem gm_980 : Cond.instanceMethod yX8_share ∈ GW := gm 980 (by decide +kernel) (by decide +kernel)
theorem gm_981 : Cond.selects "UncutTale" yX8_share yX8_share ∈ GW := gm 981 (by decide +kernel) (by decide +kernel)
theorem mk_X8_share : MK yX8_share cX8_share 9 (some .int) := ⟨gm_982, gm_980, gm_981, gm_108⟩
theorem gm_979 : Cond.methodLink "UncutTaleLaw" 177 yX8_share ∈ GW := gm 979 (by decide +kernel) (by decide +kernel)
theorem hd_X9_share : yX9_share.cls ≠ "java/lang/invoke/MethodHandle" ∧ yX9_share.cls ≠ "java/lang/invoke/VarHandle" ∧ (parseMethodDescriptor yX9_share.desc).map (fun d => d.parameters.length) = some 2 := by decide +kernel
theorem gm_1901 : Cond.code yX9_share cX9_share 6 (some .int) ∈ GW := gm 1901 (by decide +kernel) (by decide +kernel)
theorem gm_1899 : Cond.instanceMethod yX9_share ∈ GW := gm 1899 (by decide +kernel) (by decide +kernel)
theorem gm_1900 : Cond.selects "UncutTaleModel" yX9_share yX9_share ∈ GW := gm 1900 (by decide +kernel) (by decide +kernel)
theorem mk_X9_share : MK yX9_share cX9_share 6 (some .int) := ⟨gm_1901, gm_1899, gm_1900, gm_117⟩
theorem gm_1898 : Cond.methodLink "UncutTaleLaw" 180 yX9_share ∈ GW := gm 1898 (by decide +kernel) (by decide +kernel)
theorem hd_X8_plan : yX8_plan.cls ≠ "java/lang/invoke/MethodHandle" ∧ yX8_plan.cls ≠ "java/lang/invoke/VarHandle" ∧ (parseMethodDescriptor yX8_plan.desc).map (fun d => d.parameters.length) = some 1 := by decide +kernel
theorem gm_1007 : Cond.code yX8_plan cX8_plan 2 (some .int) ∈ GW := gm 1007 (by decide +kernel) (by decide +kernel)
theorem gm_1005 : Cond.instanceMethod yX8_plan ∈ GW := gm 1005 (by decide +kernel) (by decide +kernel)
theorem gm_1006 : Cond.selects "UncutTale" yX8_plan yX8_plan ∈ GW := gm 1006 (by decide +kernel) (by decide +kernel)
theorem mk_X8_plan : MK yX8_plan cX8_plan 2 (some .int) := ⟨gm_1007, gm_1005, gm_1006, gm_108⟩
theorem gm_1004 : Cond.methodLink "UncutTaleLaw" 181 yX8_plan ∈ GW := gm 1004 (by decide +kernel) (by decide +kernel)
theorem hd_X9_plan : yX9_plan.cls ≠ "java/lang/invoke/MethodHandle" ∧ yX9_plan.cls ≠ "java/lang/invoke/VarHandle" ∧ (parseMethodDescriptor yX9_plan.desc).map (fun d => d.parameters.length) = some 1 := by decide +kernel
theorem gm_1918 : Cond.code yX9_plan cX9_plan 2 (some .int) ∈ GW := gm 1918 (by decide +kernel) (by decide +kernel)
theorem gm_1916 : Cond.instanceMethod yX9_plan ∈ GW := gm 1916 (by decide +kernel) (by decide +kernel)
theorem gm_1917 : Cond.selects "UncutTaleModel" yX9_plan yX9_plan ∈ GW := gm 1917 (by decide +kernel) (by decide +kernel)
theorem mk_X9_plan : MK yX9_plan cX9_plan 2 (some .int) := ⟨gm_1918, gm_1916, gm_1917, gm_117⟩
theorem gm_1915 : Cond.methodLink "UncutTaleLaw" 184 yX9_plan ∈ GW := gm 1915 (by decide +kernel) (by decide +kernel)
theorem hd_X8_planned : yX8_planned.cls ≠ "java/lang/invoke/MethodHandle" ∧ yX8_planned.cls ≠ "java/lang/invoke/VarHandle" ∧ (parseMethodDescriptor yX8_planned.desc).map (fun d => d.parameters.length) = some 2 := by decide +kernel
theorem gm_1039 : Cond.code yX8_planned cX8_planned 3 (some .int) ∈ GW := gm 1039 (by decide +kernel) (by decide +kernel)
theorem gm_1037 : Cond.instanceMethod yX8_planned ∈ GW := gm 1037 (by decide +kernel) (by decide +kernel)
theorem gm_1038 : Cond.selects "UncutTale" yX8_planned yX8_planned ∈ GW := gm 1038 (by decide +kernel) (by decide +kernel)
theorem mk_X8_planned : MK yX8_planned cX8_planned 3 (some .int) := ⟨gm_1039, gm_1037, gm_1038, gm_108⟩
theorem gm_1036 : Cond.methodLink "UncutTaleLaw" 185 yX8_planned ∈ GW := gm 1036 (by decide +kernel) (by decide +kernel)
theorem hd_X9_planned : yX9_planned.cls ≠ "java/lang/invoke/MethodHandle" ∧ yX9_planned.cls ≠ "java/lang/invoke/VarHandle" ∧ (parseMethodDescriptor yX9_planned.desc).map (fun d => d.parameters.length) = some 2 := by decide +kernel
theorem gm_1938 : Cond.code yX9_planned cX9_planned 3 (some .int) ∈ GW := gm 1938 (by decide +kernel) (by decide +kernel)
theorem gm_1936 : Cond.instanceMethod yX9_planned ∈ GW := gm 1936 (by decide +kernel) (by decide +kernel)
theorem gm_1937 : Cond.selects "UncutTaleModel" yX9_planned yX9_planned ∈ GW := gm 1937 (by decide +kernel) (by decide +kernel)
theorem mk_X9_planned : MK yX9_planned cX9_planned 3 (some .int) := ⟨gm_1938, gm_1936, gm_1937, gm_117⟩
theorem gm_1935 : Cond.methodLink "UncutTaleLaw" 188 yX9_planned ∈ GW := gm 1935 (by decide +kernel) (by decide +kernel)
theorem hd_X8_plans : yX8_plans.cls ≠ "java/lang/invoke/MethodHandle" ∧ yX8_plans.cls ≠ "java/lang/invoke/VarHandle" ∧ (parseMethodDescriptor yX8_plans.desc).map (fun d => d.parameters.length) = some 1 := by decide +kernel
theorem gm_1043 : Cond.code yX8_plans cX8_plans 2 (some .int) ∈ GW := gm 1043 (by decide +kernel) (by decide +kernel)
theorem gm_1041 : Cond.instanceMethod yX8_plans ∈ GW := gm 1041 (by decide +kernel) (by decide +kernel)
theorem gm_1042 : Cond.selects "UncutTale" yX8_plans yX8_plans ∈ GW := gm 1042 (by decide +kernel) (by decide +kernel)
theorem mk_X8_plans : MK yX8_plans cX8_plans 2 (some .int) := ⟨gm_1043, gm_1041, gm_1042, gm_108⟩
theorem gm_1040 : Cond.methodLink "UncutTaleLaw" 189 yX8_plans ∈ GW := gm 1040 (by decide +kernel) (by decide +kernel)
theorem hd_X9_plans : yX9_plans.cls ≠ "java/lang/invoke/MethodHandle" ∧ yX9_plans.cls ≠ "java/lang/invoke/VarHandle" ∧ (parseMethodDescriptor yX9_plans.desc).map (fun d => d.parameters.length) = some 1 := by decide +kernel
theorem gm_1942 : Cond.code yX9_plans cX9_plans 2 (some .int) ∈ GW := gm 1942 (by decide +kernel) (by decide +kernel)
theorem gm_1940 : Cond.instanceMethod yX9_plans ∈ GW := gm 1940 (by decide +kernel) (by decide +kernel)
theorem gm_1941 : Cond.selects "UncutTaleModel" yX9_plans yX9_plans ∈ GW := gm 1941 (by decide +kernel) (by decide +kernel)
theorem mk_X9_plans : MK yX9_plans cX9_plans 2 (some .int) := ⟨gm_1942, gm_1940, gm_1941, gm_117⟩
theorem gm_1939 : Cond.methodLink "UncutTaleLaw" 192 yX9_plans ∈ GW := gm 1939 (by decide +kernel) (by decide +kernel)
theorem hd_X8_stiffs : yX8_stiffs.cls ≠ "java/lang/invoke/MethodHandle" ∧ yX8_stiffs.cls ≠ "java/lang/invoke/VarHandle" ∧ (parseMethodDescriptor yX8_stiffs.desc).map (fun d => d.parameters.length) = some 2 := by decide +kernel
theorem gm_1047 : Cond.code yX8_stiffs cX8_stiffs 4 (some .int) ∈ GW := gm 1047 (by decide +kernel) (by decide +kernel)
theorem gm_1045 : Cond.instanceMethod yX8_stiffs ∈ GW := gm 1045 (by decide +kernel) (by decide +kernel)
theorem gm_1046 : Cond.selects "UncutTale" yX8_stiffs yX8_stiffs ∈ GW := gm 1046 (by decide +kernel) (by decide +kernel)
theorem mk_X8_stiffs : MK yX8_stiffs cX8_stiffs 4 (some .int) := ⟨gm_1047, gm_1045, gm_1046, gm_108⟩
theorem gm_1044 : Cond.methodLink "UncutTaleLaw" 193 yX8_stiffs ∈ GW := gm 1044 (by decide +kernel) (by decide +kernel)
theorem hd_X9_stiffs : yX9_stiffs.cls ≠ "java/lang/invoke/MethodHandle" ∧ yX9_stiffs.cls ≠ "java/lang/invoke/VarHandle" ∧ (parseMethodDescriptor yX9_stiffs.desc).map (fun d => d.parameters.length) = some 2 := by decide +kernel
theorem gm_1946 : Cond.code yX9_stiffs cX9_stiffs 4 (some .int) ∈ GW := gm 1946 (by decide +kernel) (by decide +kernel)
theorem gm_1944 : Cond.instanceMethod yX9_stiffs ∈ GW := gm 1944 (by decide +kernel) (by decide +kernel)
theorem gm_1945 : Cond.selects "UncutTaleModel" yX9_stiffs yX9_stiffs ∈ GW := gm 1945 (by decide +kernel) (by decide +kernel)
theorem mk_X9_stiffs : MK yX9_stiffs cX9_stiffs 4 (some .int) := ⟨gm_1946, gm_1944, gm_1945, gm_117⟩
theorem gm_1943 : Cond.methodLink "UncutTaleLaw" 196 yX9_stiffs ∈ GW := gm 1943 (by decide +kernel) (by decide +kernel)
theorem hd_X8_low : yX8_low.cls ≠ "java/lang/invoke/MethodHandle" ∧ yX8_low.cls ≠ "java/lang/invoke/VarHandle" ∧ (parseMethodDescriptor yX8_low.desc).map (fun d => d.parameters.length) = some 2 := by decide +kernel
theorem gm_1091 : Cond.code yX8_low cX8_low 4 (some .int) ∈ GW := gm 1091 (by decide +kernel) (by decide +kernel)
theorem gm_1089 : Cond.instanceMethod yX8_low ∈ GW := gm 1089 (by decide +kernel) (by decide +kernel)
theorem gm_1090 : Cond.selects "UncutTale" yX8_low yX8_low ∈ GW := gm 1090 (by decide +kernel) (by decide +kernel)
theorem mk_X8_low : MK yX8_low cX8_low 4 (some .int) := ⟨gm_1091, gm_1089, gm_1090, gm_108⟩
theorem gm_1088 : Cond.methodLink "UncutTaleLaw" 197 yX8_low ∈ GW := gm 1088 (by decide +kernel) (by decide +kernel)
theorem hd_X9_low : yX9_low.cls ≠ "java/lang/invoke/MethodHandle" ∧ yX9_low.cls ≠ "java/lang/invoke/VarHandle" ∧ (parseMethodDescriptor yX9_low.desc).map (fun d => d.parameters.length) = some 2 := by decide +kernel
theorem gm_1963 : Cond.code yX9_low cX9_low 4 (some .int) ∈ GW := gm 1963 (by decide +kernel) (by decide +kernel)
theorem gm_1961 : Cond.instanceMethod yX9_low ∈ GW := gm 1961 (by decide +kernel) (by decide +kernel)
theorem gm_1962 : Cond.selects "UncutTaleModel" yX9_low yX9_low ∈ GW := gm 1962 (by decide +kernel) (by decide +kernel)
theorem mk_X9_low : MK yX9_low cX9_low 4 (some .int) := ⟨gm_1963, gm_1961, gm_1962, gm_117⟩
theorem gm_1960 : Cond.methodLink "UncutTaleLaw" 200 yX9_low ∈ GW := gm 1960 (by decide +kernel) (by decide +kernel)
theorem hd_X8_high : yX8_high.cls ≠ "java/lang/invoke/MethodHandle" ∧ yX8_high.cls ≠ "java/lang/invoke/VarHandle" ∧ (parseMethodDescriptor yX8_high.desc).map (fun d => d.parameters.length) = some 2 := by decide +kernel
theorem gm_1099 : Cond.code yX8_high cX8_high 4 (some .int) ∈ GW := gm 1099 (by decide +kernel) (by decide +kernel)
theorem gm_1097 : Cond.instanceMethod yX8_high ∈ GW := gm 1097 (by decide +kernel) (by decide +kernel)
theorem gm_1098 : Cond.selects "UncutTale" yX8_high yX8_high ∈ GW := gm 1098 (by decide +kernel) (by decide +kernel)
theorem mk_X8_high : MK yX8_high cX8_high 4 (some .int) := ⟨gm_1099, gm_1097, gm_1098, gm_108⟩
theorem gm_1096 : Cond.methodLink "UncutTaleLaw" 201 yX8_high ∈ GW := gm 1096 (by decide +kernel) (by decide +kernel)
theorem hd_X9_high : yX9_high.cls ≠ "java/lang/invoke/MethodHandle" ∧ yX9_high.cls ≠ "java/lang/invoke/VarHandle" ∧ (parseMethodDescriptor yX9_high.desc).map (fun d => d.parameters.length) = some 2 := by decide +kernel
theorem gm_1967 : Cond.code yX9_high cX9_high 4 (some .int) ∈ GW := gm 1967 (by decide +kernel) (by decide +kernel)
theorem gm_1965 : Cond.instanceMethod yX9_high ∈ GW := gm 1965 (by decide +kernel) (by decide +kernel)
theorem gm_1966 : Cond.selects "UncutTaleModel" yX9_high yX9_high ∈ GW := gm 1966 (by decide +kernel) (by decide +kernel)
theorem mk_X9_high : MK yX9_high cX9_high 4 (some .int) := ⟨gm_1967, gm_1965, gm_1966, gm_117⟩
theorem gm_1964 : Cond.methodLink "UncutTaleLaw" 204 yX9_high ∈ GW := gm 1964 (by decide +kernel) (by decide +kernel)
theorem hd_X8_ask : yX8_ask.cls ≠ "java/lang/invoke/MethodHandle" ∧ yX8_ask.cls ≠ "java/lang/invoke/VarHandle" ∧ (parseMethodDescriptor yX8_ask.desc).map (fun d => d.parameters.length) = some 2 := by decide +kernel
theorem gm_1107 : Cond.code yX8_ask cX8_ask 4 (some .int) ∈ GW := gm 1107 (by decide +kernel) (by decide +kernel)
theorem gm_1105 : Cond.instanceMethod yX8_ask ∈ GW := gm 1105 (by decide +kernel) (by decide +kernel)
theorem gm_1106 : Cond.selects "UncutTale" yX8_ask yX8_ask ∈ GW := gm 1106 (by decide +kernel) (by decide +kernel)
theorem mk_X8_ask : MK yX8_ask cX8_ask 4 (some .int) := ⟨gm_1107, gm_1105, gm_1106, gm_108⟩
theorem gm_1104 : Cond.methodLink "UncutTaleLaw" 205 yX8_ask ∈ GW := gm 1104 (by decide +kernel) (by decide +kernel)
theorem hd_X9_ask : yX9_ask.cls ≠ "java/lang/invoke/MethodHandle" ∧ yX9_ask.cls ≠ "java/lang/invoke/VarHandle" ∧ (parseMethodDescriptor yX9_ask.desc).map (fun d => d.parameters.length) = some 2 := by decide +kernel
theorem gm_1971 : Cond.code yX9_ask cX9_ask 4 (some .int) ∈ GW := gm 1971 (by decide +kernel) (by decide +kernel)
theorem gm_1969 : Cond.instanceMethod yX9_ask ∈ GW := gm 1969 (by decide +kernel) (by decide +kernel)
theorem gm_1970 : Cond.selects "UncutTaleModel" yX9_ask yX9_ask ∈ GW := gm 1970 (by decide +kernel) (by decide +kernel)
theorem mk_X9_ask : MK yX9_ask cX9_ask 4 (some .int) := ⟨gm_1971, gm_1969, gm_1970, gm_117⟩
theorem gm_1968 : Cond.methodLink "UncutTaleLaw" 208 yX9_ask ∈ GW := gm 1968 (by decide +kernel) (by decide +kernel)
theorem hd_X8_leaves : yX8_leaves.cls ≠ "java/lang/invoke/MethodHandle" ∧ yX8_leaves.cls ≠ "java/lang/invoke/VarHandle" ∧ (parseMethodDescriptor yX8_leaves.desc).map (fun d => d.parameters.length) = some 2 := by decide +kernel
theorem gm_1126 : Cond.code yX8_leaves cX8_leaves 4 (some .int) ∈ GW := gm 1126 (by decide +kernel) (by decide +kernel)
theorem gm_1124 : Cond.instanceMethod yX8_leaves ∈ GW := gm 1124 (by decide +kernel) (by decide +kernel)
theorem gm_1125 : Cond.selects "UncutTale" yX8_leaves yX8_leaves ∈ GW := gm 1125 (by decide +kernel) (by decide +kernel)
theorem mk_X8_leaves : MK yX8_leaves cX8_leaves 4 (some .int) := ⟨gm_1126, gm_1124, gm_1125, gm_108⟩
theorem gm_1123 : Cond.methodLink "UncutTaleLaw" 209 yX8_leaves ∈ GW := gm 1123 (by decide +kernel) (by decide +kernel)
theorem hd_X9_leaves : yX9_leaves.cls ≠ "java/lang/invoke/MethodHandle" ∧ yX9_leaves.cls ≠ "java/lang/invoke/VarHandle" ∧ (parseMethodDescriptor yX9_leaves.desc).map (fun d => d.parameters.length) = some 2 := by decide +kernel
theorem gm_1975 : Cond.code yX9_leaves cX9_leaves 4 (some .int) ∈ GW := gm 1975 (by decide +kernel) (by decide +kernel)
theorem gm_1973 : Cond.instanceMethod yX9_leaves ∈ GW := gm 1973 (by decide +kernel) (by decide +kernel)
theorem gm_1974 : Cond.selects "UncutTaleModel" yX9_leaves yX9_leaves ∈ GW := gm 1974 (by decide +kernel) (by decide +kernel)
theorem mk_X9_leaves : MK yX9_leaves cX9_leaves 4 (some .int) := ⟨gm_1975, gm_1973, gm_1974, gm_117⟩
theorem gm_1972 : Cond.methodLink "UncutTaleLaw" 212 yX9_leaves ∈ GW := gm 1972 (by decide +kernel) (by decide +kernel)
theorem hd_X8_laws : yX8_laws.cls ≠ "java/lang/invoke/MethodHandle" ∧ yX8_laws.cls ≠ "java/lang/invoke/VarHandle" ∧ (parseMethodDescriptor yX8_laws.desc).map (fun d => d.parameters.length) = some 1 := by decide +kernel
theorem gm_1130 : Cond.code yX8_laws cX8_laws 5 (some .int) ∈ GW := gm 1130 (by decide +kernel) (by decide +kernel)
theorem gm_1128 : Cond.instanceMethod yX8_laws ∈ GW := gm 1128 (by decide +kernel) (by decide +kernel)
theorem gm_1129 : Cond.selects "UncutTale" yX8_laws yX8_laws ∈ GW := gm 1129 (by decide +kernel) (by decide +kernel)
theorem mk_X8_laws : MK yX8_laws cX8_laws 5 (some .int) := ⟨gm_1130, gm_1128, gm_1129, gm_108⟩
theorem gm_1127 : Cond.methodLink "UncutTaleLaw" 213 yX8_laws ∈ GW := gm 1127 (by decide +kernel) (by decide +kernel)
theorem hd_X9_laws : yX9_laws.cls ≠ "java/lang/invoke/MethodHandle" ∧ yX9_laws.cls ≠ "java/lang/invoke/VarHandle" ∧ (parseMethodDescriptor yX9_laws.desc).map (fun d => d.parameters.length) = some 1 := by decide +kernel
theorem gm_1979 : Cond.code yX9_laws cX9_laws 5 (some .int) ∈ GW := gm 1979 (by decide +kernel) (by decide +kernel)
theorem gm_1977 : Cond.instanceMethod yX9_laws ∈ GW := gm 1977 (by decide +kernel) (by decide +kernel)
theorem gm_1978 : Cond.selects "UncutTaleModel" yX9_laws yX9_laws ∈ GW := gm 1978 (by decide +kernel) (by decide +kernel)
theorem mk_X9_laws : MK yX9_laws cX9_laws 5 (some .int) := ⟨gm_1979, gm_1977, gm_1978, gm_117⟩
theorem gm_1976 : Cond.methodLink "UncutTaleLaw" 216 yX9_laws ∈ GW := gm 1976 (by decide +kernel) (by decide +kernel)
theorem hd_X8_by : yX8_by.cls ≠ "java/lang/invoke/MethodHandle" ∧ yX8_by.cls ≠ "java/lang/invoke/VarHandle" ∧ (parseMethodDescriptor yX8_by.desc).map (fun d => d.parameters.length) = some 1 := by decide +kernel
theorem gm_1139 : Cond.code yX8_by cX8_by 2 (some .int) ∈ GW := gm 1139 (by decide +kernel) (by decide +kernel)
theorem gm_1137 : Cond.instanceMethod yX8_by ∈ GW := gm 1137 (by decide +kernel) (by decide +kernel)
theorem gm_1138 : Cond.selects "UncutTale" yX8_by yX8_by ∈ GW := gm 1138 (by decide +kernel) (by decide +kernel)
theorem mk_X8_by : MK yX8_by cX8_by 2 (some .int) := ⟨gm_1139, gm_1137, gm_1138, gm_108⟩
theorem gm_1136 : Cond.methodLink "UncutTaleLaw" 217 yX8_by ∈ GW := gm 1136 (by decide +kernel) (by decide +kernel)
theorem hd_X9_by : yX9_by.cls ≠ "java/lang/invoke/MethodHandle" ∧ yX9_by.cls ≠ "java/lang/invoke/VarHandle" ∧ (parseMethodDescriptor yX9_by.desc).map (fun d => d.parameters.length) = some 1 := by decide +kernel
theorem gm_1987 : Cond.code yX9_by cX9_by 2 (some .int) ∈ GW := gm 1987 (by decide +kernel) (by decide +kernel)
theorem gm_1985 : Cond.instanceMethod yX9_by ∈ GW := gm 1985 (by decide +kernel) (by decide +kernel)
theorem gm_1986 : Cond.selects "UncutTaleModel" yX9_by yX9_by ∈ GW := gm 1986 (by decide +kernel) (by decide +kernel)
theorem mk_X9_by : MK yX9_by cX9_by 2 (some .int) := ⟨gm_1987, gm_1985, gm_1986, gm_117⟩
theorem gm_1984 : Cond.methodLink "UncutTaleLaw" 220 yX9_by ∈ GW := gm 1984 (by decide +kernel) (by decide +kernel)
theorem hd_X8_law : yX8_law.cls ≠ "java/lang/invoke/MethodHandle" ∧ yX8_law.cls ≠ "java/lang/invoke/VarHandle" ∧ (parseMethodDescriptor yX8_law.desc).map (fun d => d.parameters.length) = some 0 := by decide +kernel
theorem gm_1147 : Cond.code yX8_law cX8_law 5 (some .int) ∈ GW := gm 1147 (by decide +kernel) (by decide +kernel)
theorem gm_1145 : Cond.instanceMethod yX8_law ∈ GW := gm 1145 (by decide +kernel) (by decide +kernel)
theorem gm_1146 : Cond.selects "UncutTale" yX8_law yX8_law ∈ GW := gm 1146 (by decide +kernel) (by decide +kernel)
theorem mk_X8_law : MK yX8_law cX8_law 5 (some .int) := ⟨gm_1147, gm_1145, gm_1146, gm_108⟩
theorem gm_1144 : Cond.methodLink "UncutTaleLaw" 221 yX8_law ∈ GW := gm 1144 (by decide +kernel) (by decide +kernel)
theorem hd_X9_law : yX9_law.cls ≠ "java/lang/invoke/MethodHandle" ∧ yX9_law.cls ≠ "java/lang/invoke/VarHandle" ∧ (parseMethodDescriptor yX9_law.desc).map (fun d => d.parameters.length) = some 0 := by decide +kernel
theorem gm_1991 : Cond.code yX9_law cX9_law 3 (some .int) ∈ GW := gm 1991 (by decide +kernel) (by decide +kernel)
theorem gm_1989 : Cond.instanceMethod yX9_law ∈ GW := gm 1989 (by decide +kernel) (by decide +kernel)
theorem gm_1990 : Cond.selects "UncutTaleModel" yX9_law yX9_law ∈ GW := gm 1990 (by decide +kernel) (by decide +kernel)
theorem mk_X9_law : MK yX9_law cX9_law 3 (some .int) := ⟨gm_1991, gm_1989, gm_1990, gm_117⟩
theorem gm_1988 : Cond.methodLink "UncutTaleLaw" 224 yX9_law ∈ GW := gm 1988 (by decide +kernel) (by decide +kernel)
theorem hd_X8_blunt : yX8_blunt.cls ≠ "java/lang/invoke/MethodHandle" ∧ yX8_blunt.cls ≠ "java/lang/invoke/VarHandle" ∧ (parseMethodDescriptor yX8_blunt.desc).map (fun d => d.parameters.length) = some 0 := by decide +kernel
theorem gm_1151 : Cond.code yX8_blunt cX8_blunt 5 (some .int) ∈ GW := gm 1151 (by decide +kernel) (by decide +kernel)
theorem gm_1149 : Cond.instanceMethod yX8_blunt ∈ GW := gm 1149 (by decide +kernel) (by decide +kernel)
theorem gm_1150 : Cond.selects "UncutTale" yX8_blunt yX8_blunt ∈ GW := gm 1150 (by decide +kernel) (by decide +kernel)
theorem mk_X8_blunt : MK yX8_blunt cX8_blunt 5 (some .int) := ⟨gm_1151, gm_1149, gm_1150, gm_108⟩
theorem gm_1148 : Cond.methodLink "UncutTaleLaw" 225 yX8_blunt ∈ GW := gm 1148 (by decide +kernel) (by decide +kernel)
theorem hd_X9_blunt : yX9_blunt.cls ≠ "java/lang/invoke/MethodHandle" ∧ yX9_blunt.cls ≠ "java/lang/invoke/VarHandle" ∧ (parseMethodDescriptor yX9_blunt.desc).map (fun d => d.parameters.length) = some 0 := by decide +kernel
theorem gm_1995 : Cond.code yX9_blunt cX9_blunt 4 (some .int) ∈ GW := gm 1995 (by decide +kernel) (by decide +kernel)
theorem gm_1993 : Cond.instanceMethod yX9_blunt ∈ GW := gm 1993 (by decide +kernel) (by decide +kernel)
theorem gm_1994 : Cond.selects "UncutTaleModel" yX9_blunt yX9_blunt ∈ GW := gm 1994 (by decide +kernel) (by decide +kernel)
theorem mk_X9_blunt : MK yX9_blunt cX9_blunt 4 (some .int) := ⟨gm_1995, gm_1993, gm_1994, gm_117⟩
theorem gm_1992 : Cond.methodLink "UncutTaleLaw" 228 yX9_blunt ∈ GW := gm 1992 (by decide +kernel) (by decide +kernel)
theorem hd_X8_slit : yX8_slit.cls ≠ "java/lang/invoke/MethodHandle" ∧ yX8_slit.cls ≠ "java/lang/invoke/VarHandle" ∧ (parseMethodDescriptor yX8_slit.desc).map (fun d => d.parameters.length) = some 0 := by decide +kernel
theorem gm_1155 : Cond.code yX8_slit cX8_slit 5 (some .int) ∈ GW := gm 1155 (by decide +kernel) (by decide +kernel)
theorem gm_1153 : Cond.instanceMethod yX8_slit ∈ GW := gm 1153 (by decide +kernel) (by decide +kernel)
theorem gm_1154 : Cond.selects "UncutTale" yX8_slit yX8_slit ∈ GW := gm 1154 (by decide +kernel) (by decide +kernel)
theorem mk_X8_slit : MK yX8_slit cX8_slit 5 (some .int) := ⟨gm_1155, gm_1153, gm_1154, gm_108⟩
theorem gm_1152 : Cond.methodLink "UncutTaleLaw" 229 yX8_slit ∈ GW := gm 1152 (by decide +kernel) (by decide +kernel)
theorem hd_X9_slit : yX9_slit.cls ≠ "java/lang/invoke/MethodHandle" ∧ yX9_slit.cls ≠ "java/lang/invoke/VarHandle" ∧ (parseMethodDescriptor yX9_slit.desc).map (fun d => d.parameters.length) = some 0 := by decide +kernel
theorem gm_1999 : Cond.code yX9_slit cX9_slit 4 (some .int) ∈ GW := gm 1999 (by decide +kernel) (by decide +kernel)
theorem gm_1997 : Cond.instanceMethod yX9_slit ∈ GW := gm 1997 (by decide +kernel) (by decide +kernel)
theorem gm_1998 : Cond.selects "UncutTaleModel" yX9_slit yX9_slit ∈ GW := gm 1998 (by decide +kernel) (by decide +kernel)
theorem mk_X9_slit : MK yX9_slit cX9_slit 4 (some .int) := ⟨gm_1999, gm_1997, gm_1998, gm_117⟩
theorem gm_1996 : Cond.methodLink "UncutTaleLaw" 232 yX9_slit ∈ GW := gm 1996 (by decide +kernel) (by decide +kernel)
theorem hd_X8_uncle : yX8_uncle.cls ≠ "java/lang/invoke/MethodHandle" ∧ yX8_uncle.cls ≠ "java/lang/invoke/VarHandle" ∧ (parseMethodDescriptor yX8_uncle.desc).map (fun d => d.parameters.length) = some 0 := by decide +kernel
theorem gm_1159 : Cond.code yX8_uncle cX8_uncle 3 (some .int) ∈ GW := gm 1159 (by decide +kernel) (by decide +kernel)
theorem gm_1157 : Cond.instanceMethod yX8_uncle ∈ GW := gm 1157 (by decide +kernel) (by decide +kernel)
theorem gm_1158 : Cond.selects "UncutTale" yX8_uncle yX8_uncle ∈ GW := gm 1158 (by decide +kernel) (by decide +kernel)
theorem mk_X8_uncle : MK yX8_uncle cX8_uncle 3 (some .int) := ⟨gm_1159, gm_1157, gm_1158, gm_108⟩
theorem gm_1156 : Cond.methodLink "UncutTaleLaw" 233 yX8_uncle ∈ GW := gm 1156 (by decide +kernel) (by decide +kernel)
theorem hd_X9_uncle : yX9_uncle.cls ≠ "java/lang/invoke/MethodHandle" ∧ yX9_uncle.cls ≠ "java/lang/invoke/VarHandle" ∧ (parseMethodDescriptor yX9_uncle.desc).map (fun d => d.parameters.length) = some 0 := by decide +kernel
theorem gm_2003 : Cond.code yX9_uncle cX9_uncle 1 (some .int) ∈ GW := gm 2003 (by decide +kernel) (by decide +kernel)
theorem gm_2001 : Cond.instanceMethod yX9_uncle ∈ GW := gm 2001 (by decide +kernel) (by decide +kernel)
theorem gm_2002 : Cond.selects "UncutTaleModel" yX9_uncle yX9_uncle ∈ GW := gm 2002 (by decide +kernel) (by decide +kernel)
theorem mk_X9_uncle : MK yX9_uncle cX9_uncle 1 (some .int) := ⟨gm_2003, gm_2001, gm_2002, gm_117⟩
theorem gm_2000 : Cond.methodLink "UncutTaleLaw" 236 yX9_uncle ∈ GW := gm 2000 (by decide +kernel) (by decide +kernel)
theorem hd_X8_opens : yX8_opens.cls ≠ "java/lang/invoke/MethodHandle" ∧ yX8_opens.cls ≠ "java/lang/invoke/VarHandle" ∧ (parseMethodDescriptor yX8_opens.desc).map (fun d => d.parameters.length) = some 0 := by decide +kernel
theorem gm_1171 : Cond.code yX8_opens cX8_opens 5 (some .int) ∈ GW := gm 1171 (by decide +kernel) (by decide +kernel)
theorem gm_1169 : Cond.instanceMethod yX8_opens ∈ GW := gm 1169 (by decide +kernel) (by decide +kernel)
theorem gm_1170 : Cond.selects "UncutTale" yX8_opens yX8_opens ∈ GW := gm 1170 (by decide +kernel) (by decide +kernel)
theorem mk_X8_opens : MK yX8_opens cX8_opens 5 (some .int) := ⟨gm_1171, gm_1169, gm_1170, gm_108⟩
theorem gm_1168 : Cond.methodLink "UncutTaleLaw" 237 yX8_opens ∈ GW := gm 1168 (by decide +kernel) (by decide +kernel)
theorem hd_X9_opens : yX9_opens.cls ≠ "java/lang/invoke/MethodHandle" ∧ yX9_opens.cls ≠ "java/lang/invoke/VarHandle" ∧ (parseMethodDescriptor yX9_opens.desc).map (fun d => d.parameters.length) = some 0 := by decide +kernel
theorem gm_2015 : Cond.code yX9_opens cX9_opens 1 (some .int) ∈ GW := gm 2015 (by decide +kernel) (by decide +kernel)
theorem gm_2013 : Cond.instanceMethod yX9_opens ∈ GW := gm 2013 (by decide +kernel) (by decide +kernel)
theorem gm_2014 : Cond.selects "UncutTaleModel" yX9_opens yX9_opens ∈ GW := gm 2014 (by decide +kernel) (by decide +kernel)
theorem mk_X9_opens : MK yX9_opens cX9_opens 1 (some .int) := ⟨gm_2015, gm_2013, gm_2014, gm_117⟩
theorem gm_2012 : Cond.methodLink "UncutTaleLaw" 240 yX9_opens ∈ GW := gm 2012 (by decide +kernel) (by decide +kernel)
theorem hd_X8_replies : yX8_replies.cls ≠ "java/lang/invoke/MethodHandle" ∧ yX8_replies.cls ≠ "java/lang/invoke/VarHandle" ∧ (parseMethodDescriptor yX8_replies.desc).map (fun d => d.parameters.length) = some 1 := by decide +kernel
theorem gm_1175 : Cond.code yX8_replies cX8_replies 2 (some .int) ∈ GW := gm 1175 (by decide +kernel) (by decide +kernel)
theorem gm_1173 : Cond.instanceMethod yX8_replies ∈ GW := gm 1173 (by decide +kernel) (by decide +kernel)
theorem gm_1174 : Cond.selects "UncutTale" yX8_replies yX8_replies ∈ GW := gm 1174 (by decide +kernel) (by decide +kernel)
theorem mk_X8_replies : MK yX8_replies cX8_replies 2 (some .int) := ⟨gm_1175, gm_1173, gm_1174, gm_108⟩
theorem gm_1172 : Cond.methodLink "UncutTaleLaw" 241 yX8_replies ∈ GW := gm 1172 (by decide +kernel) (by decide +kernel)
theorem hd_X9_replies : yX9_replies.cls ≠ "java/lang/invoke/MethodHandle" ∧ yX9_replies.cls ≠ "java/lang/invoke/VarHandle" ∧ (parseMethodDescriptor yX9_replies.desc).map (fun d => d.parameters.length) = some 1 := by decide +kernel
theorem gm_2019 : Cond.code yX9_replies cX9_replies 2 (some .int) ∈ GW := gm 2019 (by decide +kernel) (by decide +kernel)
theorem gm_2017 : Cond.instanceMethod yX9_replies ∈ GW := gm 2017 (by decide +kernel) (by decide +kernel)
theorem gm_2018 : Cond.selects "UncutTaleModel" yX9_replies yX9_replies ∈ GW := gm 2018 (by decide +kernel) (by decide +kernel)
theorem mk_X9_replies : MK yX9_replies cX9_replies 2 (some .int) := ⟨gm_2019, gm_2017, gm_2018, gm_117⟩
theorem gm_2016 : Cond.methodLink "UncutTaleLaw" 244 yX9_replies ∈ GW := gm 2016 (by decide +kernel) (by decide +kernel)
theorem hd_X8_rests : yX8_rests.cls ≠ "java/lang/invoke/MethodHandle" ∧ yX8_rests.cls ≠ "java/lang/invoke/VarHandle" ∧ (parseMethodDescriptor yX8_rests.desc).map (fun d => d.parameters.length) = some 2 := by decide +kernel
theorem gm_1179 : Cond.code yX8_rests cX8_rests 8 (some .int) ∈ GW := gm 1179 (by decide +kernel) (by decide +kernel)
theorem gm_1177 : Cond.instanceMethod yX8_rests ∈ GW := gm 1177 (by decide +kernel) (by decide +kernel)
theorem gm_1178 : Cond.selects "UncutTale" yX8_rests yX8_rests ∈ GW := gm 1178 (by decide +kernel) (by decide +kernel)
theorem mk_X8_rests : MK yX8_rests cX8_rests 8 (some .int) := ⟨gm_1179, gm_1177, gm_1178, gm_108⟩
theorem gm_1176 : Cond.methodLink "UncutTaleLaw" 245 yX8_rests ∈ GW := gm 1176 (by decide +kernel) (by decide +kernel)
theorem hd_X9_rests : yX9_rests.cls ≠ "java/lang/invoke/MethodHandle" ∧ yX9_rests.cls ≠ "java/lang/invoke/VarHandle" ∧ (parseMethodDescriptor yX9_rests.desc).map (fun d => d.parameters.length) = some 2 := by decide +kernel
theorem gm_2023 : Cond.code yX9_rests cX9_rests 8 (some .int) ∈ GW := gm 2023 (by decide +kernel) (by decide +kernel)
theorem gm_2021 : Cond.instanceMethod yX9_rests ∈ GW := gm 2021 (by decide +kernel) (by decide +kernel)
theorem gm_2022 : Cond.selects "UncutTaleModel" yX9_rests yX9_rests ∈ GW := gm 2022 (by decide +kernel) (by decide +kernel)
theorem mk_X9_rests : MK yX9_rests cX9_rests 8 (some .int) := ⟨gm_2023, gm_2021, gm_2022, gm_117⟩
theorem gm_2020 : Cond.methodLink "UncutTaleLaw" 248 yX9_rests ∈ GW := gm 2020 (by decide +kernel) (by decide +kernel)
theorem hd_X8_gets : yX8_gets.cls ≠ "java/lang/invoke/MethodHandle" ∧ yX8_gets.cls ≠ "java/lang/invoke/VarHandle" ∧ (parseMethodDescriptor yX8_gets.desc).map (fun d => d.parameters.length) = some 4 := by decide +kernel
theorem gm_1191 : Cond.code yX8_gets cX8_gets 5 (some .int) ∈ GW := gm 1191 (by decide +kernel) (by decide +kernel)
theorem gm_1189 : Cond.instanceMethod yX8_gets ∈ GW := gm 1189 (by decide +kernel) (by decide +kernel)
theorem gm_1190 : Cond.selects "UncutTale" yX8_gets yX8_gets ∈ GW := gm 1190 (by decide +kernel) (by decide +kernel)
theorem mk_X8_gets : MK yX8_gets cX8_gets 5 (some .int) := ⟨gm_1191, gm_1189, gm_1190, gm_108⟩
theorem gm_1188 : Cond.methodLink "UncutTaleLaw" 249 yX8_gets ∈ GW := gm 1188 (by decide +kernel) (by decide +kernel)
theorem hd_X9_gets : yX9_gets.cls ≠ "java/lang/invoke/MethodHandle" ∧ yX9_gets.cls ≠ "java/lang/invoke/VarHandle" ∧ (parseMethodDescriptor yX9_gets.desc).map (fun d => d.parameters.length) = some 4 := by decide +kernel
theorem gm_2035 : Cond.code yX9_gets cX9_gets 5 (some .int) ∈ GW := gm 2035 (by decide +kernel) (by decide +kernel)
theorem gm_2033 : Cond.instanceMethod yX9_gets ∈ GW := gm 2033 (by decide +kernel) (by decide +kernel)
theorem gm_2034 : Cond.selects "UncutTaleModel" yX9_gets yX9_gets ∈ GW := gm 2034 (by decide +kernel) (by decide +kernel)
theorem mk_X9_gets : MK yX9_gets cX9_gets 5 (some .int) := ⟨gm_2035, gm_2033, gm_2034, gm_117⟩
theorem gm_2032 : Cond.methodLink "UncutTaleLaw" 253 yX9_gets ∈ GW := gm 2032 (by decide +kernel) (by decide +kernel)
theorem hd_X8_chance : yX8_chance.cls ≠ "java/lang/invoke/MethodHandle" ∧ yX8_chance.cls ≠ "java/lang/invoke/VarHandle" ∧ (parseMethodDescriptor yX8_chance.desc).map (fun d => d.parameters.length) = some 2 := by decide +kernel
theorem gm_1198 : Cond.code yX8_chance cX8_chance 3 (some .int) ∈ GW := gm 1198 (by decide +kernel) (by decide +kernel)
theorem gm_1196 : Cond.instanceMethod yX8_chance ∈ GW := gm 1196 (by decide +kernel) (by decide +kernel)
theorem gm_1197 : Cond.selects "UncutTale" yX8_chance yX8_chance ∈ GW := gm 1197 (by decide +kernel) (by decide +kernel)
theorem mk_X8_chance : MK yX8_chance cX8_chance 3 (some .int) := ⟨gm_1198, gm_1196, gm_1197, gm_108⟩
theorem gm_1195 : Cond.methodLink "UncutTaleLaw" 254 yX8_chance ∈ GW := gm 1195 (by decide +kernel) (by decide +kernel)
theorem hd_X9_chance : yX9_chance.cls ≠ "java/lang/invoke/MethodHandle" ∧ yX9_chance.cls ≠ "java/lang/invoke/VarHandle" ∧ (parseMethodDescriptor yX9_chance.desc).map (fun d => d.parameters.length) = some 2 := by decide +kernel
theorem gm_2039 : Cond.code yX9_chance cX9_chance 3 (some .int) ∈ GW := gm 2039 (by decide +kernel) (by decide +kernel)
theorem gm_2037 : Cond.instanceMethod yX9_chance ∈ GW := gm 2037 (by decide +kernel) (by decide +kernel)
theorem gm_2038 : Cond.selects "UncutTaleModel" yX9_chance yX9_chance ∈ GW := gm 2038 (by decide +kernel) (by decide +kernel)
theorem mk_X9_chance : MK yX9_chance cX9_chance 3 (some .int) := ⟨gm_2039, gm_2037, gm_2038, gm_117⟩
theorem gm_2036 : Cond.methodLink "UncutTaleLaw" 257 yX9_chance ∈ GW := gm 2036 (by decide +kernel) (by decide +kernel)
theorem hd_X8_mean : yX8_mean.cls ≠ "java/lang/invoke/MethodHandle" ∧ yX8_mean.cls ≠ "java/lang/invoke/VarHandle" ∧ (parseMethodDescriptor yX8_mean.desc).map (fun d => d.parameters.length) = some 1 := by decide +kernel
theorem gm_1227 : Cond.code yX8_mean cX8_mean 2 (some .long) ∈ GW := gm 1227 (by decide +kernel) (by decide +kernel)
theorem gm_1225 : Cond.instanceMethod yX8_mean ∈ GW := gm 1225 (by decide +kernel) (by decide +kernel)
theorem gm_1226 : Cond.selects "UncutTale" yX8_mean yX8_mean ∈ GW := gm 1226 (by decide +kernel) (by decide +kernel)
theorem mk_X8_mean : MK yX8_mean cX8_mean 2 (some .long) := ⟨gm_1227, gm_1225, gm_1226, gm_108⟩
theorem gm_1224 : Cond.methodLink "UncutTaleLaw" 258 yX8_mean ∈ GW := gm 1224 (by decide +kernel) (by decide +kernel)
theorem hd_X9_mean : yX9_mean.cls ≠ "java/lang/invoke/MethodHandle" ∧ yX9_mean.cls ≠ "java/lang/invoke/VarHandle" ∧ (parseMethodDescriptor yX9_mean.desc).map (fun d => d.parameters.length) = some 1 := by decide +kernel
theorem gm_2051 : Cond.code yX9_mean cX9_mean 2 (some .long) ∈ GW := gm 2051 (by decide +kernel) (by decide +kernel)
theorem gm_2049 : Cond.instanceMethod yX9_mean ∈ GW := gm 2049 (by decide +kernel) (by decide +kernel)
theorem gm_2050 : Cond.selects "UncutTaleModel" yX9_mean yX9_mean ∈ GW := gm 2050 (by decide +kernel) (by decide +kernel)
theorem mk_X9_mean : MK yX9_mean cX9_mean 2 (some .long) := ⟨gm_2051, gm_2049, gm_2050, gm_117⟩
theorem gm_2048 : Cond.methodLink "UncutTaleLaw" 262 yX9_mean ∈ GW := gm 2048 (by decide +kernel) (by decide +kernel)
theorem hd_X8_knife : yX8_knife.cls ≠ "java/lang/invoke/MethodHandle" ∧ yX8_knife.cls ≠ "java/lang/invoke/VarHandle" ∧ (parseMethodDescriptor yX8_knife.desc).map (fun d => d.parameters.length) = some 2 := by decide +kernel
theorem gm_1253 : Cond.code yX8_knife cX8_knife 4 (some .int) ∈ GW := gm 1253 (by decide +kernel) (by decide +kernel)
theorem gm_1251 : Cond.instanceMethod yX8_knife ∈ GW := gm 1251 (by decide +kernel) (by decide +kernel)
theorem gm_1252 : Cond.selects "UncutTale" yX8_knife yX8_knife ∈ GW := gm 1252 (by decide +kernel) (by decide +kernel)
theorem mk_X8_knife : MK yX8_knife cX8_knife 4 (some .int) := ⟨gm_1253, gm_1251, gm_1252, gm_108⟩
theorem gm_1250 : Cond.methodLink "UncutTaleLaw" 263 yX8_knife ∈ GW := gm 1250 (by decide +kernel) (by decide +kernel)
theorem hd_X9_knife : yX9_knife.cls ≠ "java/lang/invoke/MethodHandle" ∧ yX9_knife.cls ≠ "java/lang/invoke/VarHandle" ∧ (parseMethodDescriptor yX9_knife.desc).map (fun d => d.parameters.length) = some 2 := by decide +kernel
theorem gm_2077 : Cond.code yX9_knife cX9_knife 3 (some .int) ∈ GW := gm 2077 (by decide +kernel) (by decide +kernel)
theorem gm_2075 : Cond.instanceMethod yX9_knife ∈ GW := gm 2075 (by decide +kernel) (by decide +kernel)
theorem gm_2076 : Cond.selects "UncutTaleModel" yX9_knife yX9_knife ∈ GW := gm 2076 (by decide +kernel) (by decide +kernel)
theorem mk_X9_knife : MK yX9_knife cX9_knife 3 (some .int) := ⟨gm_2077, gm_2075, gm_2076, gm_117⟩
theorem gm_2074 : Cond.methodLink "UncutTaleLaw" 266 yX9_knife ∈ GW := gm 2074 (by decide +kernel) (by decide +kernel)
theorem hd_X8_air : yX8_air.cls ≠ "java/lang/invoke/MethodHandle" ∧ yX8_air.cls ≠ "java/lang/invoke/VarHandle" ∧ (parseMethodDescriptor yX8_air.desc).map (fun d => d.parameters.length) = some 2 := by decide +kernel
theorem gm_1265 : Cond.code yX8_air cX8_air 4 (some .int) ∈ GW := gm 1265 (by decide +kernel) (by decide +kernel)
theorem gm_1263 : Cond.instanceMethod yX8_air ∈ GW := gm 1263 (by decide +kernel) (by decide +kernel)
theorem gm_1264 : Cond.selects "UncutTale" yX8_air yX8_air ∈ GW := gm 1264 (by decide +kernel) (by decide +kernel)
theorem mk_X8_air : MK yX8_air cX8_air 4 (some .int) := ⟨gm_1265, gm_1263, gm_1264, gm_108⟩
theorem gm_1262 : Cond.methodLink "UncutTaleLaw" 267 yX8_air ∈ GW := gm 1262 (by decide +kernel) (by decide +kernel)
theorem hd_X9_air : yX9_air.cls ≠ "java/lang/invoke/MethodHandle" ∧ yX9_air.cls ≠ "java/lang/invoke/VarHandle" ∧ (parseMethodDescriptor yX9_air.desc).map (fun d => d.parameters.length) = some 2 := by decide +kernel
theorem gm_2085 : Cond.code yX9_air cX9_air 3 (some .int) ∈ GW := gm 2085 (by decide +kernel) (by decide +kernel)
theorem gm_2083 : Cond.instanceMethod yX9_air ∈ GW := gm 2083 (by decide +kernel) (by decide +kernel)
theorem gm_2084 : Cond.selects "UncutTaleModel" yX9_air yX9_air ∈ GW := gm 2084 (by decide +kernel) (by decide +kernel)
theorem mk_X9_air : MK yX9_air cX9_air 3 (some .int) := ⟨gm_2085, gm_2083, gm_2084, gm_117⟩
theorem gm_2082 : Cond.methodLink "UncutTaleLaw" 270 yX9_air ∈ GW := gm 2082 (by decide +kernel) (by decide +kernel)
theorem hd_X8_undo : yX8_undo.cls ≠ "java/lang/invoke/MethodHandle" ∧ yX8_undo.cls ≠ "java/lang/invoke/VarHandle" ∧ (parseMethodDescriptor yX8_undo.desc).map (fun d => d.parameters.length) = some 0 := by decide +kernel
theorem gm_1269 : Cond.code yX8_undo cX8_undo 1 (some .int) ∈ GW := gm 1269 (by decide +kernel) (by decide +kernel)
theorem gm_1267 : Cond.instanceMethod yX8_undo ∈ GW := gm 1267 (by decide +kernel) (by decide +kernel)
theorem gm_1268 : Cond.selects "UncutTale" yX8_undo yX8_undo ∈ GW := gm 1268 (by decide +kernel) (by decide +kernel)
theorem mk_X8_undo : MK yX8_undo cX8_undo 1 (some .int) := ⟨gm_1269, gm_1267, gm_1268, gm_108⟩
theorem gm_1266 : Cond.methodLink "UncutTaleLaw" 271 yX8_undo ∈ GW := gm 1266 (by decide +kernel) (by decide +kernel)
theorem hd_X9_undo : yX9_undo.cls ≠ "java/lang/invoke/MethodHandle" ∧ yX9_undo.cls ≠ "java/lang/invoke/VarHandle" ∧ (parseMethodDescriptor yX9_undo.desc).map (fun d => d.parameters.length) = some 0 := by decide +kernel
theorem gm_2089 : Cond.code yX9_undo cX9_undo 1 (some .int) ∈ GW := gm 2089 (by decide +kernel) (by decide +kernel)
theorem gm_2087 : Cond.instanceMethod yX9_undo ∈ GW := gm 2087 (by decide +kernel) (by decide +kernel)
theorem gm_2088 : Cond.selects "UncutTaleModel" yX9_undo yX9_undo ∈ GW := gm 2088 (by decide +kernel) (by decide +kernel)
theorem mk_X9_undo : MK yX9_undo cX9_undo 1 (some .int) := ⟨gm_2089, gm_2087, gm_2088, gm_117⟩
theorem gm_2086 : Cond.methodLink "UncutTaleLaw" 274 yX9_undo ∈ GW := gm 2086 (by decide +kernel) (by decide +kernel)
theorem hd_X8_anew : yX8_anew.cls ≠ "java/lang/invoke/MethodHandle" ∧ yX8_anew.cls ≠ "java/lang/invoke/VarHandle" ∧ (parseMethodDescriptor yX8_anew.desc).map (fun d => d.parameters.length) = some 0 := by decide +kernel
theorem gm_1273 : Cond.code yX8_anew cX8_anew 2 (some .int) ∈ GW := gm 1273 (by decide +kernel) (by decide +kernel)
theorem gm_1271 : Cond.instanceMethod yX8_anew ∈ GW := gm 1271 (by decide +kernel) (by decide +kernel)
theorem gm_1272 : Cond.selects "UncutTale" yX8_anew yX8_anew ∈ GW := gm 1272 (by decide +kernel) (by decide +kernel)
theorem mk_X8_anew : MK yX8_anew cX8_anew 2 (some .int) := ⟨gm_1273, gm_1271, gm_1272, gm_108⟩
theorem gm_1270 : Cond.methodLink "UncutTaleLaw" 275 yX8_anew ∈ GW := gm 1270 (by decide +kernel) (by decide +kernel)
theorem hd_X9_anew : yX9_anew.cls ≠ "java/lang/invoke/MethodHandle" ∧ yX9_anew.cls ≠ "java/lang/invoke/VarHandle" ∧ (parseMethodDescriptor yX9_anew.desc).map (fun d => d.parameters.length) = some 0 := by decide +kernel
theorem gm_2093 : Cond.code yX9_anew cX9_anew 2 (some .int) ∈ GW := gm 2093 (by decide +kernel) (by decide +kernel)
theorem gm_2091 : Cond.instanceMethod yX9_anew ∈ GW := gm 2091 (by decide +kernel) (by decide +kernel)
theorem gm_2092 : Cond.selects "UncutTaleModel" yX9_anew yX9_anew ∈ GW := gm 2092 (by decide +kernel) (by decide +kernel)
theorem mk_X9_anew : MK yX9_anew cX9_anew 2 (some .int) := ⟨gm_2093, gm_2091, gm_2092, gm_117⟩
theorem gm_2090 : Cond.methodLink "UncutTaleLaw" 278 yX9_anew ∈ GW := gm 2090 (by decide +kernel) (by decide +kernel)
theorem hd_X8_drawn : yX8_drawn.cls ≠ "java/lang/invoke/MethodHandle" ∧ yX8_drawn.cls ≠ "java/lang/invoke/VarHandle" ∧ (parseMethodDescriptor yX8_drawn.desc).map (fun d => d.parameters.length) = some 2 := by decide +kernel
theorem gm_1232 : Cond.code yX8_drawn cX8_drawn 4 (some .int) ∈ GW := gm 1232 (by decide +kernel) (by decide +kernel)
theorem gm_1230 : Cond.instanceMethod yX8_drawn ∈ GW := gm 1230 (by decide +kernel) (by decide +kernel)
theorem gm_1231 : Cond.selects "UncutTale" yX8_drawn yX8_drawn ∈ GW := gm 1231 (by decide +kernel) (by decide +kernel)
theorem mk_X8_drawn : MK yX8_drawn cX8_drawn 4 (some .int) := ⟨gm_1232, gm_1230, gm_1231, gm_108⟩
theorem gm_1229 : Cond.methodLink "UncutTaleLaw" 279 yX8_drawn ∈ GW := gm 1229 (by decide +kernel) (by decide +kernel)
theorem hd_X9_drawn : yX9_drawn.cls ≠ "java/lang/invoke/MethodHandle" ∧ yX9_drawn.cls ≠ "java/lang/invoke/VarHandle" ∧ (parseMethodDescriptor yX9_drawn.desc).map (fun d => d.parameters.length) = some 2 := by decide +kernel
theorem gm_2056 : Cond.code yX9_drawn cX9_drawn 4 (some .int) ∈ GW := gm 2056 (by decide +kernel) (by decide +kernel)
theorem gm_2054 : Cond.instanceMethod yX9_drawn ∈ GW := gm 2054 (by decide +kernel) (by decide +kernel)
theorem gm_2055 : Cond.selects "UncutTaleModel" yX9_drawn yX9_drawn ∈ GW := gm 2055 (by decide +kernel) (by decide +kernel)
theorem mk_X9_drawn : MK yX9_drawn cX9_drawn 4 (some .int) := ⟨gm_2056, gm_2054, gm_2055, gm_117⟩
theorem gm_2053 : Cond.methodLink "UncutTaleLaw" 282 yX9_drawn ∈ GW := gm 2053 (by decide +kernel) (by decide +kernel)
theorem hd_X8_luck : yX8_luck.cls ≠ "java/lang/invoke/MethodHandle" ∧ yX8_luck.cls ≠ "java/lang/invoke/VarHandle" ∧ (parseMethodDescriptor yX8_luck.desc).map (fun d => d.parameters.length) = some 3 := by decide +kernel
theorem gm_1249 : Cond.code yX8_luck cX8_luck 6 (some .int) ∈ GW := gm 1249 (by decide +kernel) (by decide +kernel)
theorem gm_1247 : Cond.instanceMethod yX8_luck ∈ GW := gm 1247 (by decide +kernel) (by decide +kernel)
theorem gm_1248 : Cond.selects "UncutTale" yX8_luck yX8_luck ∈ GW := gm 1248 (by decide +kernel) (by decide +kernel)
theorem mk_X8_luck : MK yX8_luck cX8_luck 6 (some .int) := ⟨gm_1249, gm_1247, gm_1248, gm_108⟩
theorem gm_1246 : Cond.methodLink "UncutTaleLaw" 283 yX8_luck ∈ GW := gm 1246 (by decide +kernel) (by decide +kernel)
theorem hd_X9_luck : yX9_luck.cls ≠ "java/lang/invoke/MethodHandle" ∧ yX9_luck.cls ≠ "java/lang/invoke/VarHandle" ∧ (parseMethodDescriptor yX9_luck.desc).map (fun d => d.parameters.length) = some 3 := by decide +kernel
theorem gm_2072 : Cond.code yX9_luck cX9_luck 6 (some .int) ∈ GW := gm 2072 (by decide +kernel) (by decide +kernel)
theorem gm_2070 : Cond.instanceMethod yX9_luck ∈ GW := gm 2070 (by decide +kernel) (by decide +kernel)
theorem gm_2071 : Cond.selects "UncutTaleModel" yX9_luck yX9_luck ∈ GW := gm 2071 (by decide +kernel) (by decide +kernel)
theorem mk_X9_luck : MK yX9_luck cX9_luck 6 (some .int) := ⟨gm_2072, gm_2070, gm_2071, gm_117⟩
theorem gm_2069 : Cond.methodLink "UncutTaleLaw" 287 yX9_luck ∈ GW := gm 2069 (by decide +kernel) (by decide +kernel)
theorem hd_X8_rate : yX8_rate.cls ≠ "java/lang/invoke/MethodHandle" ∧ yX8_rate.cls ≠ "java/lang/invoke/VarHandle" ∧ (parseMethodDescriptor yX8_rate.desc).map (fun d => d.parameters.length) = some 2 := by decide +kernel
theorem gm_1277 : Cond.code yX8_rate cX8_rate 4 (some .int) ∈ GW := gm 1277 (by decide +kernel) (by decide +kernel)
theorem gm_1275 : Cond.instanceMethod yX8_rate ∈ GW := gm 1275 (by decide +kernel) (by decide +kernel)
theorem gm_1276 : Cond.selects "UncutTale" yX8_rate yX8_rate ∈ GW := gm 1276 (by decide +kernel) (by decide +kernel)
theorem mk_X8_rate : MK yX8_rate cX8_rate 4 (some .int) := ⟨gm_1277, gm_1275, gm_1276, gm_108⟩
theorem gm_1274 : Cond.methodLink "UncutTaleLaw" 288 yX8_rate ∈ GW := gm 1274 (by decide +kernel) (by decide +kernel)
theorem hd_X9_rate : yX9_rate.cls ≠ "java/lang/invoke/MethodHandle" ∧ yX9_rate.cls ≠ "java/lang/invoke/VarHandle" ∧ (parseMethodDescriptor yX9_rate.desc).map (fun d => d.parameters.length) = some 2 := by decide +kernel
theorem gm_2097 : Cond.code yX9_rate cX9_rate 4 (some .int) ∈ GW := gm 2097 (by decide +kernel) (by decide +kernel)
theorem gm_2095 : Cond.instanceMethod yX9_rate ∈ GW := gm 2095 (by decide +kernel) (by decide +kernel)
theorem gm_2096 : Cond.selects "UncutTaleModel" yX9_rate yX9_rate ∈ GW := gm 2096 (by decide +kernel) (by decide +kernel)
theorem mk_X9_rate : MK yX9_rate cX9_rate 4 (some .int) := ⟨gm_2097, gm_2095, gm_2096, gm_117⟩
theorem gm_2094 : Cond.methodLink "UncutTaleLaw" 291 yX9_rate ∈ GW := gm 2094 (by decide +kernel) (by decide +kernel)
theorem hd_X8_count : yX8_count.cls ≠ "java/lang/invoke/MethodHandle" ∧ yX8_count.cls ≠ "java/lang/invoke/VarHandle" ∧ (parseMethodDescriptor yX8_count.desc).map (fun d => d.parameters.length) = some 1 := by decide +kernel
theorem gm_714 : Cond.code yX8_count cX8_count 2 (some .int) ∈ GW := gm 714 (by decide +kernel) (by decide +kernel)
theorem gm_712 : Cond.instanceMethod yX8_count ∈ GW := gm 712 (by decide +kernel) (by decide +kernel)
theorem gm_713 : Cond.selects "UncutTale" yX8_count yX8_count ∈ GW := gm 713 (by decide +kernel) (by decide +kernel)
theorem mk_X8_count : MK yX8_count cX8_count 2 (some .int) := ⟨gm_714, gm_712, gm_713, gm_108⟩
theorem gm_711 : Cond.methodLink "UncutTaleLaw" 292 yX8_count ∈ GW := gm 711 (by decide +kernel) (by decide +kernel)
theorem hd_X9_count : yX9_count.cls ≠ "java/lang/invoke/MethodHandle" ∧ yX9_count.cls ≠ "java/lang/invoke/VarHandle" ∧ (parseMethodDescriptor yX9_count.desc).map (fun d => d.parameters.length) = some 1 := by decide +kernel
theorem gm_2102 : Cond.code yX9_count cX9_count 4 (some .int) ∈ GW := gm 2102 (by decide +kernel) (by decide +kernel)
theorem gm_2100 : Cond.instanceMethod yX9_count ∈ GW := gm 2100 (by decide +kernel) (by decide +kernel)
theorem gm_2101 : Cond.selects "UncutTaleModel" yX9_count yX9_count ∈ GW := gm 2101 (by decide +kernel) (by decide +kernel)
theorem mk_X9_count : MK yX9_count cX9_count 4 (some .int) := ⟨gm_2102, gm_2100, gm_2101, gm_117⟩
theorem gm_2099 : Cond.methodLink "UncutTaleLaw" 295 yX9_count ∈ GW := gm 2099 (by decide +kernel) (by decide +kernel)
theorem hd_X8_image : yX8_image.cls ≠ "java/lang/invoke/MethodHandle" ∧ yX8_image.cls ≠ "java/lang/invoke/VarHandle" ∧ (parseMethodDescriptor yX8_image.desc).map (fun d => d.parameters.length) = some 1 := by decide +kernel
theorem gm_1281 : Cond.code yX8_image cX8_image 2 (some .int) ∈ GW := gm 1281 (by decide +kernel) (by decide +kernel)
theorem gm_1279 : Cond.instanceMethod yX8_image ∈ GW := gm 1279 (by decide +kernel) (by decide +kernel)
theorem gm_1280 : Cond.selects "UncutTale" yX8_image yX8_image ∈ GW := gm 1280 (by decide +kernel) (by decide +kernel)
theorem mk_X8_image : MK yX8_image cX8_image 2 (some .int) := ⟨gm_1281, gm_1279, gm_1280, gm_108⟩
theorem gm_1278 : Cond.methodLink "UncutTaleLaw" 296 yX8_image ∈ GW := gm 1278 (by decide +kernel) (by decide +kernel)
theorem hd_X9_image : yX9_image.cls ≠ "java/lang/invoke/MethodHandle" ∧ yX9_image.cls ≠ "java/lang/invoke/VarHandle" ∧ (parseMethodDescriptor yX9_image.desc).map (fun d => d.parameters.length) = some 1 := by decide +kernel
theorem gm_2107 : Cond.code yX9_image cX9_image 2 (some .int) ∈ GW := gm 2107 (by decide +kernel) (by decide +kernel)
theorem gm_2105 : Cond.instanceMethod yX9_image ∈ GW := gm 2105 (by decide +kernel) (by decide +kernel)
theorem gm_2106 : Cond.selects "UncutTaleModel" yX9_image yX9_image ∈ GW := gm 2106 (by decide +kernel) (by decide +kernel)
theorem mk_X9_image : MK yX9_image cX9_image 2 (some .int) := ⟨gm_2107, gm_2105, gm_2106, gm_117⟩
theorem gm_2104 : Cond.methodLink "UncutTaleLaw" 299 yX9_image ∈ GW := gm 2104 (by decide +kernel) (by decide +kernel)
theorem hd_X8_back : yX8_back.cls ≠ "java/lang/invoke/MethodHandle" ∧ yX8_back.cls ≠ "java/lang/invoke/VarHandle" ∧ (parseMethodDescriptor yX8_back.desc).map (fun d => d.parameters.length) = some 1 := by decide +kernel
theorem gm_1285 : Cond.code yX8_back cX8_back 2 (some .int) ∈ GW := gm 1285 (by decide +kernel) (by decide +kernel)
theorem gm_1283 : Cond.instanceMethod yX8_back ∈ GW := gm 1283 (by decide +kernel) (by decide +kernel)
theorem gm_1284 : Cond.selects "UncutTale" yX8_back yX8_back ∈ GW := gm 1284 (by decide +kernel) (by decide +kernel)
theorem mk_X8_back : MK yX8_back cX8_back 2 (some .int) := ⟨gm_1285, gm_1283, gm_1284, gm_108⟩
theorem gm_1282 : Cond.methodLink "UncutTaleLaw" 300 yX8_back ∈ GW := gm 1282 (by decide +kernel) (by decide +kernel)
theorem hd_X9_back : yX9_back.cls ≠ "java/lang/invoke/MethodHandle" ∧ yX9_back.cls ≠ "java/lang/invoke/VarHandle" ∧ (parseMethodDescriptor yX9_back.desc).map (fun d => d.parameters.length) = some 1 := by decide +kernel
theorem gm_2111 : Cond.code yX9_back cX9_back 2 (some .int) ∈ GW := gm 2111 (by decide +kernel) (by decide +kernel)
theorem gm_2109 : Cond.instanceMethod yX9_back ∈ GW := gm 2109 (by decide +kernel) (by decide +kernel)
theorem gm_2110 : Cond.selects "UncutTaleModel" yX9_back yX9_back ∈ GW := gm 2110 (by decide +kernel) (by decide +kernel)
theorem mk_X9_back : MK yX9_back cX9_back 2 (some .int) := ⟨gm_2111, gm_2109, gm_2110, gm_117⟩
theorem gm_2108 : Cond.methodLink "UncutTaleLaw" 303 yX9_back ∈ GW := gm 2108 (by decide +kernel) (by decide +kernel)
theorem hd_X8_row : yX8_row.cls ≠ "java/lang/invoke/MethodHandle" ∧ yX8_row.cls ≠ "java/lang/invoke/VarHandle" ∧ (parseMethodDescriptor yX8_row.desc).map (fun d => d.parameters.length) = some 3 := by decide +kernel
theorem gm_1289 : Cond.code yX8_row cX8_row 4 (some .int) ∈ GW := gm 1289 (by decide +kernel) (by decide +kernel)
theorem gm_1287 : Cond.instanceMethod yX8_row ∈ GW := gm 1287 (by decide +kernel) (by decide +kernel)
theorem gm_1288 : Cond.selects "UncutTale" yX8_row yX8_row ∈ GW := gm 1288 (by decide +kernel) (by decide +kernel)
theorem mk_X8_row : MK yX8_row cX8_row 4 (some .int) := ⟨gm_1289, gm_1287, gm_1288, gm_108⟩
theorem gm_1286 : Cond.methodLink "UncutTaleLaw" 304 yX8_row ∈ GW := gm 1286 (by decide +kernel) (by decide +kernel)
theorem hd_X9_row : yX9_row.cls ≠ "java/lang/invoke/MethodHandle" ∧ yX9_row.cls ≠ "java/lang/invoke/VarHandle" ∧ (parseMethodDescriptor yX9_row.desc).map (fun d => d.parameters.length) = some 3 := by decide +kernel
theorem gm_1491 : Cond.code yX9_row cX9_row 5 (some .int) ∈ GW := gm 1491 (by decide +kernel) (by decide +kernel)
theorem gm_1489 : Cond.instanceMethod yX9_row ∈ GW := gm 1489 (by decide +kernel) (by decide +kernel)
theorem gm_1490 : Cond.selects "UncutTaleModel" yX9_row yX9_row ∈ GW := gm 1490 (by decide +kernel) (by decide +kernel)
theorem mk_X9_row : MK yX9_row cX9_row 5 (some .int) := ⟨gm_1491, gm_1489, gm_1490, gm_117⟩
theorem gm_1488 : Cond.methodLink "UncutTaleLaw" 307 yX9_row ∈ GW := gm 1488 (by decide +kernel) (by decide +kernel)
theorem gm_2112 : Cond.constantLong "UncutTaleLaw" 308 4294967295 ∈ GW := gm 2112 (by decide +kernel) (by decide +kernel)
theorem hd_X8_write : yX8_write.cls ≠ "java/lang/invoke/MethodHandle" ∧ yX8_write.cls ≠ "java/lang/invoke/VarHandle" ∧ (parseMethodDescriptor yX8_write.desc).map (fun d => d.parameters.length) = some 3 := by decide +kernel
theorem gm_1303 : Cond.code yX8_write cX8_write 5 (some .int) ∈ GW := gm 1303 (by decide +kernel) (by decide +kernel)
theorem gm_1301 : Cond.instanceMethod yX8_write ∈ GW := gm 1301 (by decide +kernel) (by decide +kernel)
theorem gm_1302 : Cond.selects "UncutTale" yX8_write yX8_write ∈ GW := gm 1302 (by decide +kernel) (by decide +kernel)
theorem mk_X8_write : MK yX8_write cX8_write 5 (some .int) := ⟨gm_1303, gm_1301, gm_1302, gm_108⟩
theorem gm_1300 : Cond.methodLink "UncutTaleLaw" 310 yX8_write ∈ GW := gm 1300 (by decide +kernel) (by decide +kernel)
theorem hd_X9_write : yX9_write.cls ≠ "java/lang/invoke/MethodHandle" ∧ yX9_write.cls ≠ "java/lang/invoke/VarHandle" ∧ (parseMethodDescriptor yX9_write.desc).map (fun d => d.parameters.length) = some 3 := by decide +kernel
theorem gm_1502 : Cond.code yX9_write cX9_write 5 (some .int) ∈ GW := gm 1502 (by decide +kernel) (by decide +kernel)
theorem gm_1500 : Cond.instanceMethod yX9_write ∈ GW := gm 1500 (by decide +kernel) (by decide +kernel)
theorem gm_1501 : Cond.selects "UncutTaleModel" yX9_write yX9_write ∈ GW := gm 1501 (by decide +kernel) (by decide +kernel)
theorem mk_X9_write : MK yX9_write cX9_write 5 (some .int) := ⟨gm_1502, gm_1500, gm_1501, gm_117⟩
theorem gm_1499 : Cond.methodLink "UncutTaleLaw" 314 yX9_write ∈ GW := gm 1499 (by decide +kernel) (by decide +kernel)
theorem hd_X8_paste : yX8_paste.cls ≠ "java/lang/invoke/MethodHandle" ∧ yX8_paste.cls ≠ "java/lang/invoke/VarHandle" ∧ (parseMethodDescriptor yX8_paste.desc).map (fun d => d.parameters.length) = some 5 := by decide +kernel
theorem gm_1318 : Cond.code yX8_paste cX8_paste 6 (some .int) ∈ GW := gm 1318 (by decide +kernel) (by decide +kernel)
theorem gm_1316 : Cond.instanceMethod yX8_paste ∈ GW := gm 1316 (by decide +kernel) (by decide +kernel)
theorem gm_1317 : Cond.selects "UncutTale" yX8_paste yX8_paste ∈ GW := gm 1317 (by decide +kernel) (by decide +kernel)
theorem mk_X8_paste : MK yX8_paste cX8_paste 6 (some .int) := ⟨gm_1318, gm_1316, gm_1317, gm_108⟩
theorem gm_1315 : Cond.methodLink "UncutTaleLaw" 315 yX8_paste ∈ GW := gm 1315 (by decide +kernel) (by decide +kernel)
theorem hd_X9_paste : yX9_paste.cls ≠ "java/lang/invoke/MethodHandle" ∧ yX9_paste.cls ≠ "java/lang/invoke/VarHandle" ∧ (parseMethodDescriptor yX9_paste.desc).map (fun d => d.parameters.length) = some 5 := by decide +kernel
theorem gm_1509 : Cond.code yX9_paste cX9_paste 7 (some .int) ∈ GW := gm 1509 (by decide +kernel) (by decide +kernel)
theorem gm_1507 : Cond.instanceMethod yX9_paste ∈ GW := gm 1507 (by decide +kernel) (by decide +kernel)
theorem gm_1508 : Cond.selects "UncutTaleModel" yX9_paste yX9_paste ∈ GW := gm 1508 (by decide +kernel) (by decide +kernel)
theorem mk_X9_paste : MK yX9_paste cX9_paste 7 (some .int) := ⟨gm_1509, gm_1507, gm_1508, gm_117⟩
theorem gm_1506 : Cond.methodLink "UncutTaleLaw" 318 yX9_paste ∈ GW := gm 1506 (by decide +kernel) (by decide +kernel)
theorem gm_oc : Cond.code objectInit ⟨#[0xb1]⟩ 1 none ∈ GW := gm 133 (by decide +kernel) (by decide +kernel)
theorem gm_139 : Cond.methodLink "UncutTale$Tape" 3 ⟨"java/lang/Object", "<init>", "()V"⟩ ∈ GW := gm 139 (by decide +kernel) (by decide +kernel)
theorem gm_132 : Cond.instanceMethod ⟨"java/lang/Object", "<init>", "()V"⟩ ∈ GW := gm 132 (by decide +kernel) (by decide +kernel)
theorem gm_149 : Cond.arrayClass .byte ∈ GW := gm 149 (by decide +kernel) (by decide +kernel)
theorem qk_7_9 : QK "UncutTale$Tape" 9 7 0 (.array .byte) := ⟨RX7, TX7, 2, tyX7, rfl, by decide, iw_7, gm_140, tyX7_ok, nmX7, rfl, rfl, by decide +kernel⟩
theorem pn_X7_init : plainName yX7_init.cls = true := by decide +kernel
theorem gm_155 : Cond.methodLink "UncutTale$Story" 3 ⟨"java/lang/Object", "<init>", "()V"⟩ ∈ GW := gm 155 (by decide +kernel) (by decide +kernel)
theorem gm_258 : Cond.arrayClass .int ∈ GW := gm 258 (by decide +kernel) (by decide +kernel)
theorem qk_6_9 : QK "UncutTale$Story" 9 6 0 (.array .int) := ⟨RX6, TX6, 18, tyX6, rfl, by decide, iw_6, gm_156, tyX6_ok, nmX6, rfl, rfl, by decide +kernel⟩
theorem qk_6_15 : QK "UncutTale$Story" 15 6 1 (.array .int) := ⟨RX6, TX6, 18, tyX6, rfl, by decide, iw_6, gm_160, tyX6_ok, nmX6, rfl, rfl, by decide +kernel⟩
theorem qk_6_18 : QK "UncutTale$Story" 18 6 2 (.array .int) := ⟨RX6, TX6, 18, tyX6, rfl, by decide, iw_6, gm_163, tyX6_ok, nmX6, rfl, rfl, by decide +kernel⟩
theorem qk_6_21 : QK "UncutTale$Story" 21 6 3 (.array .int) := ⟨RX6, TX6, 18, tyX6, rfl, by decide, iw_6, gm_167, tyX6_ok, nmX6, rfl, rfl, by decide +kernel⟩
theorem qk_6_24 : QK "UncutTale$Story" 24 6 4 (.array .int) := ⟨RX6, TX6, 18, tyX6, rfl, by decide, iw_6, gm_169, tyX6_ok, nmX6, rfl, rfl, by decide +kernel⟩
theorem qk_6_27 : QK "UncutTale$Story" 27 6 5 (.array .int) := ⟨RX6, TX6, 18, tyX6, rfl, by decide, iw_6, gm_171, tyX6_ok, nmX6, rfl, rfl, by decide +kernel⟩
theorem qk_6_30 : QK "UncutTale$Story" 30 6 6 (.array .int) := ⟨RX6, TX6, 18, tyX6, rfl, by decide, iw_6, gm_174, tyX6_ok, nmX6, rfl, rfl, by decide +kernel⟩
theorem qk_6_33 : QK "UncutTale$Story" 33 6 7 (.array .int) := ⟨RX6, TX6, 18, tyX6, rfl, by decide, iw_6, gm_177, tyX6_ok, nmX6, rfl, rfl, by decide +kernel⟩
theorem qk_6_36 : QK "UncutTale$Story" 36 6 8 (.array .int) := ⟨RX6, TX6, 18, tyX6, rfl, by decide, iw_6, gm_180, tyX6_ok, nmX6, rfl, rfl, by decide +kernel⟩
theorem qk_6_39 : QK "UncutTale$Story" 39 6 9 (.array .int) := ⟨RX6, TX6, 18, tyX6, rfl, by decide, iw_6, gm_183, tyX6_ok, nmX6, rfl, rfl, by decide +kernel⟩
theorem pn_X6_init : plainName yX6_init.cls = true := by decide +kernel
theorem gm_298 : Cond.methodLink "UncutTale$Slots" 3 ⟨"java/lang/Object", "<init>", "()V"⟩ ∈ GW := gm 298 (by decide +kernel) (by decide +kernel)
theorem qk_5_9 : QK "UncutTale$Slots" 9 5 0 (.array .int) := ⟨RX5, TX5, 3, tyX5, rfl, by decide, iw_5, gm_299, tyX5_ok, nmX5, rfl, rfl, by decide +kernel⟩
theorem qk_5_15 : QK "UncutTale$Slots" 15 5 1 (.array .int) := ⟨RX5, TX5, 3, tyX5, rfl, by decide, iw_5, gm_300, tyX5_ok, nmX5, rfl, rfl, by decide +kernel⟩
theorem gm_310 : Cond.arrayClass .long ∈ GW := gm 310 (by decide +kernel) (by decide +kernel)
theorem qk_5_18 : QK "UncutTale$Slots" 18 5 2 (.array .long) := ⟨RX5, TX5, 3, tyX5, rfl, by decide, iw_5, gm_301, tyX5_ok, nmX5, rfl, rfl, by decide +kernel⟩
theorem pn_X5_init : plainName yX5_init.cls = true := by decide +kernel
theorem gm_264 : Cond.methodLink "UncutTale$Parser" 3 ⟨"java/lang/Object", "<init>", "()V"⟩ ∈ GW := gm 264 (by decide +kernel) (by decide +kernel)
theorem qk_3_15 : QK "UncutTale$Parser" 15 3 0 (.object "UncutTale$Tape") := ⟨RX3, TX3, 8, tyX3, rfl, by decide, iw_3, gm_265, tyX3_ok, nmX3, rfl, rfl, by decide +kernel⟩
theorem qk_3_19 : QK "UncutTale$Parser" 19 3 1 (.object "UncutTale$Story") := ⟨RX3, TX3, 8, tyX3, rfl, by decide, iw_3, gm_266, tyX3_ok, nmX3, rfl, rfl, by decide +kernel⟩
theorem pn_X3_init : plainName yX3_init.cls = true := by decide +kernel
theorem gm_316 : Cond.methodLink "UncutTale$Course" 3 ⟨"java/lang/Object", "<init>", "()V"⟩ ∈ GW := gm 316 (by decide +kernel) (by decide +kernel)
theorem qk_0_9 : QK "UncutTale$Course" 9 0 1 (.array .int) := ⟨RX0, TX0, 10, tyX0, rfl, by decide, iw_0, gm_318, tyX0_ok, nmX0, rfl, rfl, by decide +kernel⟩
theorem qk_0_15 : QK "UncutTale$Course" 15 0 2 (.array .int) := ⟨RX0, TX0, 10, tyX0, rfl, by decide, iw_0, gm_319, tyX0_ok, nmX0, rfl, rfl, by decide +kernel⟩
theorem qk_0_18 : QK "UncutTale$Course" 18 0 3 (.array .int) := ⟨RX0, TX0, 10, tyX0, rfl, by decide, iw_0, gm_320, tyX0_ok, nmX0, rfl, rfl, by decide +kernel⟩
theorem qk_0_21 : QK "UncutTale$Course" 21 0 4 (.array .int) := ⟨RX0, TX0, 10, tyX0, rfl, by decide, iw_0, gm_321, tyX0_ok, nmX0, rfl, rfl, by decide +kernel⟩
theorem qk_0_24 : QK "UncutTale$Course" 24 0 5 (.array .int) := ⟨RX0, TX0, 10, tyX0, rfl, by decide, iw_0, gm_322, tyX0_ok, nmX0, rfl, rfl, by decide +kernel⟩
theorem qk_0_27 : QK "UncutTale$Course" 27 0 6 (.array .int) := ⟨RX0, TX0, 10, tyX0, rfl, by decide, iw_0, gm_323, tyX0_ok, nmX0, rfl, rfl, by decide +kernel⟩
theorem qk_0_30 : QK "UncutTale$Course" 30 0 0 (.object "UncutTale$Story") := ⟨RX0, TX0, 10, tyX0, rfl, by decide, iw_0, gm_317, tyX0_ok, nmX0, rfl, rfl, by decide +kernel⟩
theorem pn_X0_init : plainName yX0_init.cls = true := by decide +kernel
theorem gm_357 : Cond.methodLink "UncutTale$Planner" 3 ⟨"java/lang/Object", "<init>", "()V"⟩ ∈ GW := gm 357 (by decide +kernel) (by decide +kernel)
theorem gm_mna : Cond.classLink "UncutTale$Planner" 9 ("[" ++ (FieldType.array .int).toString) ∈ GW := gm 358 (by decide +kernel) (by decide +kernel)
theorem qk_4_11 : QK "UncutTale$Planner" 11 4 2 (.array (.array .int)) := ⟨RX4, TX4, 9, tyX4, rfl, by decide, iw_4, gm_362, tyX4_ok, nmX4, rfl, rfl, by decide +kernel⟩
theorem qk_4_16 : QK "UncutTale$Planner" 16 4 3 (.array .int) := ⟨RX4, TX4, 9, tyX4, rfl, by decide, iw_4, gm_363, tyX4_ok, nmX4, rfl, rfl, by decide +kernel⟩
theorem qk_4_20 : QK "UncutTale$Planner" 20 4 4 (.array .int) := ⟨RX4, TX4, 9, tyX4, rfl, by decide, iw_4, gm_364, tyX4_ok, nmX4, rfl, rfl, by decide +kernel⟩
theorem qk_4_23 : QK "UncutTale$Planner" 23 4 5 (.array .int) := ⟨RX4, TX4, 9, tyX4, rfl, by decide, iw_4, gm_365, tyX4_ok, nmX4, rfl, rfl, by decide +kernel⟩
theorem qk_4_26 : QK "UncutTale$Planner" 26 4 6 (.array .int) := ⟨RX4, TX4, 9, tyX4, rfl, by decide, iw_4, gm_366, tyX4_ok, nmX4, rfl, rfl, by decide +kernel⟩
theorem qk_4_29 : QK "UncutTale$Planner" 29 4 0 (.object "UncutTale$Story") := ⟨RX4, TX4, 9, tyX4, rfl, by decide, iw_4, gm_360, tyX4_ok, nmX4, rfl, rfl, by decide +kernel⟩
theorem qk_4_33 : QK "UncutTale$Planner" 33 4 1 (.object "UncutTale$Course") := ⟨RX4, TX4, 9, tyX4, rfl, by decide, iw_4, gm_361, tyX4_ok, nmX4, rfl, rfl, by decide +kernel⟩
theorem pn_X4_init : plainName yX4_init.cls = true := by decide +kernel
theorem gm_396 : Cond.methodLink "UncutTale$Odds" 3 ⟨"java/lang/Object", "<init>", "()V"⟩ ∈ GW := gm 396 (by decide +kernel) (by decide +kernel)
theorem qk_2_9 : QK "UncutTale$Odds" 9 2 2 (.array .long) := ⟨RX2, TX2, 5, tyX2, rfl, by decide, iw_2, gm_399, tyX2_ok, nmX2, rfl, rfl, by decide +kernel⟩
theorem qk_2_15 : QK "UncutTale$Odds" 15 2 0 (.object "UncutTale$Story") := ⟨RX2, TX2, 5, tyX2, rfl, by decide, iw_2, gm_397, tyX2_ok, nmX2, rfl, rfl, by decide +kernel⟩
theorem qk_2_19 : QK "UncutTale$Odds" 19 2 1 (.object "UncutTale$Course") := ⟨RX2, TX2, 5, tyX2, rfl, by decide, iw_2, gm_398, tyX2_ok, nmX2, rfl, rfl, by decide +kernel⟩
theorem pn_X2_init : plainName yX2_init.cls = true := by decide +kernel
theorem gm_421 : Cond.methodLink "UncutTale$Guess" 3 ⟨"java/lang/Object", "<init>", "()V"⟩ ∈ GW := gm 421 (by decide +kernel) (by decide +kernel)
theorem gm_309 : Cond.arrayClass .boolean ∈ GW := gm 309 (by decide +kernel) (by decide +kernel)
theorem qk_1_9 : QK "UncutTale$Guess" 9 1 2 (.array .boolean) := ⟨RX1, TX1, 6, tyX1, rfl, by decide, iw_1, gm_424, tyX1_ok, nmX1, rfl, rfl, by decide +kernel⟩
theorem qk_1_15 : QK "UncutTale$Guess" 15 1 3 (.array .int) := ⟨RX1, TX1, 6, tyX1, rfl, by decide, iw_1, gm_425, tyX1_ok, nmX1, rfl, rfl, by decide +kernel⟩
theorem qk_1_19 : QK "UncutTale$Guess" 19 1 0 (.object "UncutTale$Story") := ⟨RX1, TX1, 6, tyX1, rfl, by decide, iw_1, gm_422, tyX1_ok, nmX1, rfl, rfl, by decide +kernel⟩
theorem qk_1_23 : QK "UncutTale$Guess" 23 1 1 (.object "UncutTale$Slots") := ⟨RX1, TX1, 6, tyX1, rfl, by decide, iw_1, gm_423, tyX1_ok, nmX1, rfl, rfl, by decide +kernel⟩
theorem pn_X1_init : plainName yX1_init.cls = true := by decide +kernel
theorem gm_131 : Cond.methodLink "UncutTale" 1 ⟨"java/lang/Object", "<init>", "()V"⟩ ∈ GW := gm 131 (by decide +kernel) (by decide +kernel)
theorem df_7 : ∀ j, j < 2 → defaultValue (tyX7 j) = vp_V [.null, .int 0] j := by decide +kernel
theorem gm_134 : Cond.classLink "UncutTale" 7 "UncutTale$Tape" ∈ GW := gm 134 (by decide +kernel) (by decide +kernel)
theorem gm_135 : Cond.instantiable "UncutTale$Tape" 2 ∈ GW := gm 135 (by decide +kernel) (by decide +kernel)
theorem gm_138 : Cond.code yX7_init cX7_init 1 none ∈ GW := gm 138 (by decide +kernel) (by decide +kernel)
theorem gm_137 : Cond.instanceMethod yX7_init ∈ GW := gm 137 (by decide +kernel) (by decide +kernel)
theorem hd_X7_init : yX7_init.cls ≠ "java/lang/invoke/MethodHandle" ∧ yX7_init.cls ≠ "java/lang/invoke/VarHandle" ∧ (parseMethodDescriptor yX7_init.desc).map (fun d => d.parameters.length) = some 0 := by decide +kernel
theorem qk_8_10 : QK "UncutTale" 10 8 0 (.object "UncutTale$Tape") := ⟨RX8, TX8, 15, tyX8, rfl, by decide, iw_8, gm_443, tyX8_ok, nmX8, rfl, rfl, by decide +kernel⟩
theorem df_6 : ∀ j, j < 18 → defaultValue (tyX6 j) = vp_V [.null, .null, .null, .null, .null, .null, .null, .null, .null, .null, .int 0, .int 0, .int 0, .int 0, .int 0, .int 0, .int 0, .int 0] j := by decide +kernel
theorem gm_150 : Cond.classLink "UncutTale" 16 "UncutTale$Story" ∈ GW := gm 150 (by decide +kernel) (by decide +kernel)
theorem gm_151 : Cond.instantiable "UncutTale$Story" 18 ∈ GW := gm 151 (by decide +kernel) (by decide +kernel)
theorem gm_154 : Cond.code yX6_init cX6_init 1 none ∈ GW := gm 154 (by decide +kernel) (by decide +kernel)
theorem gm_153 : Cond.instanceMethod yX6_init ∈ GW := gm 153 (by decide +kernel) (by decide +kernel)
theorem hd_X6_init : yX6_init.cls ≠ "java/lang/invoke/MethodHandle" ∧ yX6_init.cls ≠ "java/lang/invoke/VarHandle" ∧ (parseMethodDescriptor yX6_init.desc).map (fun d => d.parameters.length) = some 0 := by decide +kernel
theorem qk_8_19 : QK "UncutTale" 19 8 1 (.object "UncutTale$Story") := ⟨RX8, TX8, 15, tyX8, rfl, by decide, iw_8, gm_444, tyX8_ok, nmX8, rfl, rfl, by decide +kernel⟩
theorem df_3 : ∀ j, j < 8 → defaultValue (tyX3 j) = vp_V [.null, .null, .int 0, .int 0, .int 0, .int 0, .int 0, .int 0] j := by decide +kernel
theorem gm_259 : Cond.classLink "UncutTale" 23 "UncutTale$Parser" ∈ GW := gm 259 (by decide +kernel) (by decide +kernel)
theorem gm_260 : Cond.instantiable "UncutTale$Parser" 8 ∈ GW := gm 260 (by decide +kernel) (by decide +kernel)
theorem gm_261 : Cond.methodLink "UncutTale" 25 yX3_init ∈ GW := gm 261 (by decide +kernel) (by decide +kernel)
theorem gm_263 : Cond.code yX3_init cX3_init 3 none ∈ GW := gm 263 (by decide +kernel) (by decide +kernel)
theorem gm_262 : Cond.instanceMethod yX3_init ∈ GW := gm 262 (by decide +kernel) (by decide +kernel)
theorem hd_X3_init : yX3_init.cls ≠ "java/lang/invoke/MethodHandle" ∧ yX3_init.cls ≠ "java/lang/invoke/VarHandle" ∧ (parseMethodDescriptor yX3_init.desc).map (fun d => d.parameters.length) = some 2 := by decide +kernel
theorem qk_8_28 : QK "UncutTale" 28 8 2 (.object "UncutTale$Parser") := ⟨RX8, TX8, 15, tyX8, rfl, by decide, iw_8, gm_445, tyX8_ok, nmX8, rfl, rfl, by decide +kernel⟩
theorem qk_8_32 : QK "UncutTale" 32 8 3 (.object "UncutTale$Story") := ⟨RX8, TX8, 15, tyX8, rfl, by decide, iw_8, gm_446, tyX8_ok, nmX8, rfl, rfl, by decide +kernel⟩
theorem qk_8_35 : QK "UncutTale" 35 8 4 (.array (.object "UncutTale$Story")) := ⟨RX8, TX8, 15, tyX8, rfl, by decide, iw_8, gm_447, tyX8_ok, nmX8, rfl, rfl, by decide +kernel⟩
theorem qk_8_39 : QK "UncutTale" 39 8 5 (.array .boolean) := ⟨RX8, TX8, 15, tyX8, rfl, by decide, iw_8, gm_448, tyX8_ok, nmX8, rfl, rfl, by decide +kernel⟩
theorem df_5 : ∀ j, j < 3 → defaultValue (tyX5 j) = vp_V [.null, .null, .null] j := by decide +kernel
theorem gm_293 : Cond.classLink "UncutTale" 43 "UncutTale$Slots" ∈ GW := gm 293 (by decide +kernel) (by decide +kernel)
theorem gm_294 : Cond.instantiable "UncutTale$Slots" 3 ∈ GW := gm 294 (by decide +kernel) (by decide +kernel)
theorem gm_297 : Cond.code yX5_init cX5_init 1 none ∈ GW := gm 297 (by decide +kernel) (by decide +kernel)
theorem gm_296 : Cond.instanceMethod yX5_init ∈ GW := gm 296 (by decide +kernel) (by decide +kernel)
theorem hd_X5_init : yX5_init.cls ≠ "java/lang/invoke/MethodHandle" ∧ yX5_init.cls ≠ "java/lang/invoke/VarHandle" ∧ (parseMethodDescriptor yX5_init.desc).map (fun d => d.parameters.length) = some 0 := by decide +kernel
theorem qk_8_46 : QK "UncutTale" 46 8 6 (.object "UncutTale$Slots") := ⟨RX8, TX8, 15, tyX8, rfl, by decide, iw_8, gm_449, tyX8_ok, nmX8, rfl, rfl, by decide +kernel⟩
theorem df_0 : ∀ j, j < 10 → defaultValue (tyX0 j) = vp_V [.null, .null, .null, .null, .null, .null, .null, .int 0, .int 0, .int 0] j := by decide +kernel
theorem gm_311 : Cond.classLink "UncutTale" 50 "UncutTale$Course" ∈ GW := gm 311 (by decide +kernel) (by decide +kernel)
theorem gm_312 : Cond.instantiable "UncutTale$Course" 10 ∈ GW := gm 312 (by decide +kernel) (by decide +kernel)
theorem gm_313 : Cond.methodLink "UncutTale" 52 yX0_init ∈ GW := gm 313 (by decide +kernel) (by decide +kernel)
theorem gm_315 : Cond.code yX0_init cX0_init 2 none ∈ GW := gm 315 (by decide +kernel) (by decide +kernel)
theorem gm_314 : Cond.instanceMethod yX0_init ∈ GW := gm 314 (by decide +kernel) (by decide +kernel)
theorem hd_X0_init : yX0_init.cls ≠ "java/lang/invoke/MethodHandle" ∧ yX0_init.cls ≠ "java/lang/invoke/VarHandle" ∧ (parseMethodDescriptor yX0_init.desc).map (fun d => d.parameters.length) = some 1 := by decide +kernel
theorem qk_8_55 : QK "UncutTale" 55 8 7 (.object "UncutTale$Course") := ⟨RX8, TX8, 15, tyX8, rfl, by decide, iw_8, gm_450, tyX8_ok, nmX8, rfl, rfl, by decide +kernel⟩
theorem qk_8_59 : QK "UncutTale" 59 8 8 (.object "UncutTale$Course") := ⟨RX8, TX8, 15, tyX8, rfl, by decide, iw_8, gm_451, tyX8_ok, nmX8, rfl, rfl, by decide +kernel⟩
theorem df_4 : ∀ j, j < 9 → defaultValue (tyX4 j) = vp_V [.null, .null, .null, .null, .null, .null, .null, .int 0, .int 0] j := by decide +kernel
theorem gm_352 : Cond.classLink "UncutTale" 62 "UncutTale$Planner" ∈ GW := gm 352 (by decide +kernel) (by decide +kernel)
theorem gm_353 : Cond.instantiable "UncutTale$Planner" 9 ∈ GW := gm 353 (by decide +kernel) (by decide +kernel)
theorem gm_354 : Cond.methodLink "UncutTale" 64 yX4_init ∈ GW := gm 354 (by decide +kernel) (by decide +kernel)
theorem gm_356 : Cond.code yX4_init cX4_init 3 none ∈ GW := gm 356 (by decide +kernel) (by decide +kernel)
theorem gm_355 : Cond.instanceMethod yX4_init ∈ GW := gm 355 (by decide +kernel) (by decide +kernel)
theorem hd_X4_init : yX4_init.cls ≠ "java/lang/invoke/MethodHandle" ∧ yX4_init.cls ≠ "java/lang/invoke/VarHandle" ∧ (parseMethodDescriptor yX4_init.desc).map (fun d => d.parameters.length) = some 2 := by decide +kernel
theorem qk_8_67 : QK "UncutTale" 67 8 9 (.object "UncutTale$Planner") := ⟨RX8, TX8, 15, tyX8, rfl, by decide, iw_8, gm_452, tyX8_ok, nmX8, rfl, rfl, by decide +kernel⟩
theorem df_2 : ∀ j, j < 5 → defaultValue (tyX2 j) = vp_V [.null, .null, .null, .long 0, .long 0] j := by decide +kernel
theorem gm_391 : Cond.classLink "UncutTale" 71 "UncutTale$Odds" ∈ GW := gm 391 (by decide +kernel) (by decide +kernel)
theorem gm_392 : Cond.instantiable "UncutTale$Odds" 5 ∈ GW := gm 392 (by decide +kernel) (by decide +kernel)
theorem gm_393 : Cond.methodLink "UncutTale" 73 yX2_init ∈ GW := gm 393 (by decide +kernel) (by decide +kernel)
theorem gm_395 : Cond.code yX2_init cX2_init 3 none ∈ GW := gm 395 (by decide +kernel) (by decide +kernel)
theorem gm_394 : Cond.instanceMethod yX2_init ∈ GW := gm 394 (by decide +kernel) (by decide +kernel)
theorem hd_X2_init : yX2_init.cls ≠ "java/lang/invoke/MethodHandle" ∧ yX2_init.cls ≠ "java/lang/invoke/VarHandle" ∧ (parseMethodDescriptor yX2_init.desc).map (fun d => d.parameters.length) = some 2 := by decide +kernel
theorem qk_8_74 : QK "UncutTale" 74 8 10 (.object "UncutTale$Odds") := ⟨RX8, TX8, 15, tyX8, rfl, by decide, iw_8, gm_453, tyX8_ok, nmX8, rfl, rfl, by decide +kernel⟩
theorem df_1 : ∀ j, j < 6 → defaultValue (tyX1 j) = vp_V [.null, .null, .null, .null, .int 0, .int 0] j := by decide +kernel
theorem gm_416 : Cond.classLink "UncutTale" 78 "UncutTale$Guess" ∈ GW := gm 416 (by decide +kernel) (by decide +kernel)
theorem gm_417 : Cond.instantiable "UncutTale$Guess" 6 ∈ GW := gm 417 (by decide +kernel) (by decide +kernel)
theorem gm_418 : Cond.methodLink "UncutTale" 80 yX1_init ∈ GW := gm 418 (by decide +kernel) (by decide +kernel)
theorem gm_420 : Cond.code yX1_init cX1_init 3 none ∈ GW := gm 420 (by decide +kernel) (by decide +kernel)
theorem gm_419 : Cond.instanceMethod yX1_init ∈ GW := gm 419 (by decide +kernel) (by decide +kernel)
theorem hd_X1_init : yX1_init.cls ≠ "java/lang/invoke/MethodHandle" ∧ yX1_init.cls ≠ "java/lang/invoke/VarHandle" ∧ (parseMethodDescriptor yX1_init.desc).map (fun d => d.parameters.length) = some 2 := by decide +kernel
theorem qk_8_83 : QK "UncutTale" 83 8 11 (.object "UncutTale$Guess") := ⟨RX8, TX8, 15, tyX8, rfl, by decide, iw_8, gm_454, tyX8_ok, nmX8, rfl, rfl, by decide +kernel⟩
theorem pn_X8_init : plainName yX8_init.cls = true := by decide +kernel
theorem gm_1333 : Cond.methodLink "UncutTaleModel" 1 ⟨"java/lang/Object", "<init>", "()V"⟩ ∈ GW := gm 1333 (by decide +kernel) (by decide +kernel)
theorem qk_9_7 : QK "UncutTaleModel" 7 9 1 (.array .int) := ⟨RX9, TX9, 51, tyX9, rfl, by decide, iw_9, gm_1335, tyX9_ok, nmX9, rfl, rfl, by decide +kernel⟩
theorem qk_9_13 : QK "UncutTaleModel" 13 9 2 (.array .int) := ⟨RX9, TX9, 51, tyX9, rfl, by decide, iw_9, gm_1336, tyX9_ok, nmX9, rfl, rfl, by decide +kernel⟩
theorem qk_9_16 : QK "UncutTaleModel" 16 9 3 (.array .long) := ⟨RX9, TX9, 51, tyX9, rfl, by decide, iw_9, gm_1337, tyX9_ok, nmX9, rfl, rfl, by decide +kernel⟩
theorem qk_9_20 : QK "UncutTaleModel" 20 9 4 (.array .long) := ⟨RX9, TX9, 51, tyX9, rfl, by decide, iw_9, gm_1338, tyX9_ok, nmX9, rfl, rfl, by decide +kernel⟩
theorem qk_9_23 : QK "UncutTaleModel" 23 9 5 (.array .byte) := ⟨RX9, TX9, 51, tyX9, rfl, by decide, iw_9, gm_1339, tyX9_ok, nmX9, rfl, rfl, by decide +kernel⟩
theorem qk_9_31 : QK "UncutTaleModel" 31 9 16 (.array .int) := ⟨RX9, TX9, 51, tyX9, rfl, by decide, iw_9, gm_1350, tyX9_ok, nmX9, rfl, rfl, by decide +kernel⟩
theorem qk_9_34 : QK "UncutTaleModel" 34 9 17 (.array .int) := ⟨RX9, TX9, 51, tyX9, rfl, by decide, iw_9, gm_1351, tyX9_ok, nmX9, rfl, rfl, by decide +kernel⟩
theorem qk_9_37 : QK "UncutTaleModel" 37 9 18 (.array .int) := ⟨RX9, TX9, 51, tyX9, rfl, by decide, iw_9, gm_1352, tyX9_ok, nmX9, rfl, rfl, by decide +kernel⟩
theorem qk_9_40 : QK "UncutTaleModel" 40 9 19 (.array .int) := ⟨RX9, TX9, 51, tyX9, rfl, by decide, iw_9, gm_1353, tyX9_ok, nmX9, rfl, rfl, by decide +kernel⟩
theorem qk_9_43 : QK "UncutTaleModel" 43 9 20 (.array .int) := ⟨RX9, TX9, 51, tyX9, rfl, by decide, iw_9, gm_1354, tyX9_ok, nmX9, rfl, rfl, by decide +kernel⟩
theorem qk_9_46 : QK "UncutTaleModel" 46 9 21 (.array .int) := ⟨RX9, TX9, 51, tyX9, rfl, by decide, iw_9, gm_1355, tyX9_ok, nmX9, rfl, rfl, by decide +kernel⟩
theorem qk_9_49 : QK "UncutTaleModel" 49 9 22 (.array .boolean) := ⟨RX9, TX9, 51, tyX9, rfl, by decide, iw_9, gm_1356, tyX9_ok, nmX9, rfl, rfl, by decide +kernel⟩
theorem qk_9_53 : QK "UncutTaleModel" 53 9 28 (.array .int) := ⟨RX9, TX9, 51, tyX9, rfl, by decide, iw_9, gm_1362, tyX9_ok, nmX9, rfl, rfl, by decide +kernel⟩
theorem qk_9_56 : QK "UncutTaleModel" 56 9 29 (.array .int) := ⟨RX9, TX9, 51, tyX9, rfl, by decide, iw_9, gm_1363, tyX9_ok, nmX9, rfl, rfl, by decide +kernel⟩
theorem qk_9_59 : QK "UncutTaleModel" 59 9 30 (.array .int) := ⟨RX9, TX9, 51, tyX9, rfl, by decide, iw_9, gm_1364, tyX9_ok, nmX9, rfl, rfl, by decide +kernel⟩
theorem qk_9_62 : QK "UncutTaleModel" 62 9 31 (.array .int) := ⟨RX9, TX9, 51, tyX9, rfl, by decide, iw_9, gm_1365, tyX9_ok, nmX9, rfl, rfl, by decide +kernel⟩
theorem qk_9_65 : QK "UncutTaleModel" 65 9 32 (.array .int) := ⟨RX9, TX9, 51, tyX9, rfl, by decide, iw_9, gm_1366, tyX9_ok, nmX9, rfl, rfl, by decide +kernel⟩
theorem qk_9_68 : QK "UncutTaleModel" 68 9 33 (.array .int) := ⟨RX9, TX9, 51, tyX9, rfl, by decide, iw_9, gm_1367, tyX9_ok, nmX9, rfl, rfl, by decide +kernel⟩
theorem qk_9_71 : QK "UncutTaleModel" 71 9 34 (.array .int) := ⟨RX9, TX9, 51, tyX9, rfl, by decide, iw_9, gm_1368, tyX9_ok, nmX9, rfl, rfl, by decide +kernel⟩
theorem qk_9_74 : QK "UncutTaleModel" 74 9 39 (.array .int) := ⟨RX9, TX9, 51, tyX9, rfl, by decide, iw_9, gm_1373, tyX9_ok, nmX9, rfl, rfl, by decide +kernel⟩
theorem qk_9_77 : QK "UncutTaleModel" 77 9 40 (.array .int) := ⟨RX9, TX9, 51, tyX9, rfl, by decide, iw_9, gm_1374, tyX9_ok, nmX9, rfl, rfl, by decide +kernel⟩
theorem qk_9_80 : QK "UncutTaleModel" 80 9 46 (.array .int) := ⟨RX9, TX9, 51, tyX9, rfl, by decide, iw_9, gm_1380, tyX9_ok, nmX9, rfl, rfl, by decide +kernel⟩
theorem pn_X9_init : plainName yX9_init.cls = true := by decide +kernel
theorem gm_127 : Cond.instantiable "UncutTale" 15 ∈ GW := gm 127 (by decide +kernel) (by decide +kernel)
theorem gm_1329 : Cond.instantiable "UncutTaleModel" 51 ∈ GW := gm 1329 (by decide +kernel) (by decide +kernel)
theorem df_8 : ∀ j, j < 15 → defaultValue (tyX8 j) = vp_V [.null, .null, .null, .null, .null, .null, .null, .null, .null, .null, .null, .null, .int 0, .int 0, .int 0] j := by decide +kernel
theorem gm_126 : Cond.classLink "UncutTaleLaw" 7 "UncutTale" ∈ GW := gm 126 (by decide +kernel) (by decide +kernel)
theorem gm_130 : Cond.code yX8_init cX8_init 2 none ∈ GW := gm 130 (by decide +kernel) (by decide +kernel)
theorem gm_129 : Cond.instanceMethod yX8_init ∈ GW := gm 129 (by decide +kernel) (by decide +kernel)
theorem gm_128 : Cond.methodLink "UncutTaleLaw" 9 yX8_init ∈ GW := gm 128 (by decide +kernel) (by decide +kernel)
theorem hd_X8_init : yX8_init.cls ≠ "java/lang/invoke/MethodHandle" ∧ yX8_init.cls ≠ "java/lang/invoke/VarHandle" ∧ (parseMethodDescriptor yX8_init.desc).map (fun d => d.parameters.length) = some 0 := by decide +kernel
theorem df_9 : ∀ j, j < 51 → defaultValue (tyX9 j) = vp_V [.int 0, .null, .null, .null, .null, .null, .int 0, .int 0, .int 0, .int 0, .int 0, .long 0, .int 0, .int 0, .int 0, .int 0, .null, .null, .null, .null, .null, .null, .null, .int 0, .int 0, .int 0, .int 0, .int 0, .null, .null, .null, .null, .null, .null, .null, .int 0, .int 0, .int 0, .int 0, .null, .null, .int 0, .int 0, .int 0, .int 0, .int 0, .null, .int 0, .int 0, .int 0, .int 0] j := by decide +kernel
theorem gm_1328 : Cond.classLink "UncutTaleLaw" 10 "UncutTaleModel" ∈ GW := gm 1328 (by decide +kernel) (by decide +kernel)
theorem gm_1332 : Cond.code yX9_init cX9_init 2 none ∈ GW := gm 1332 (by decide +kernel) (by decide +kernel)
theorem gm_1331 : Cond.instanceMethod yX9_init ∈ GW := gm 1331 (by decide +kernel) (by decide +kernel)
theorem gm_1330 : Cond.methodLink "UncutTaleLaw" 12 yX9_init ∈ GW := gm 1330 (by decide +kernel) (by decide +kernel)
theorem hd_X9_init : yX9_init.cls ≠ "java/lang/invoke/MethodHandle" ∧ yX9_init.cls ≠ "java/lang/invoke/VarHandle" ∧ (parseMethodDescriptor yX9_init.desc).map (fun d => d.parameters.length) = some 0 := by decide +kernel
