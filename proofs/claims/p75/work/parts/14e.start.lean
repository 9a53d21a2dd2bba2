def stT (i : Nat) : Term := .string ((strO.getD i ("", 0, "")).1) ((strO.getD i ("", 0, "")).2.1)
abbrev NWl : List Cond := flatC (Jvm.Cond.and given_1 narrow_1)
set_option maxRecDepth 100000 in
theorem st_ex : ∀ i, i < 11 → Cond.exactly (stT i) "java/lang/String" ∈ NWl := by decide +kernel
set_option maxRecDepth 100000 in
theorem st_co : ∀ i, i < 11 → Cond.eq (.field (stT i) "java/lang/String" "coder" "B") (.int 0) ∈ NWl := by decide +kernel
set_option maxRecDepth 100000 in
theorem st_ar : ∀ i, i < 11 → Cond.arrayOf (.field (stT i) "java/lang/String" "value" "[B") .byte ∈ NWl := by decide +kernel
set_option maxRecDepth 100000 in
theorem st_le : ∀ i, i < 11 → Cond.eq (.length (.field (stT i) "java/lang/String" "value" "[B")) (.int (Int32.ofNat (lenS.getD i 0))) ∈ NWl := by decide +kernel
set_option maxRecDepth 100000 in
theorem st_el : ∀ i, i < 11 → ∀ j, j < lenS.getD i 0 → Cond.eq (.elem (.field (stT i) "java/lang/String" "value" "[B") (.int (Int32.ofNat j))) (.int ((bytS.getD i []).getD j 0)) ∈ NWl := by decide +kernel
set_option maxRecDepth 100000 in
theorem st_ne : ∀ i, i < 11 → ∀ j, j < 11 → i ≠ j → Cond.not (Cond.eq (stT i) (stT j)) ∈ NWl ∨ Cond.not (Cond.eq (stT j) (stT i)) ∈ NWl := by decide +kernel
set_option maxRecDepth 100000 in
theorem st_fa : Cond.arrayOf (.static "UncutTale" "FACTORIALS" "[I") .int ∈ NWl := by decide +kernel
set_option maxRecDepth 100000 in
theorem st_fl : Cond.eq (.length (.static "UncutTale" "FACTORIALS" "[I")) (.int (Int32.ofNat 7)) ∈ NWl := by decide +kernel
set_option maxRecDepth 100000 in
theorem st_fe : ∀ j, j < 7 → Cond.eq (.elem (.static "UncutTale" "FACTORIALS" "[I") (.int (Int32.ofNat j))) (.int (facL.getD j 0)) ∈ NWl := by decide +kernel
set_option maxRecDepth 100000 in
theorem st_cs : Cond.eq (.static "java/lang/String" "COMPACT_STRINGS" "Z") (.int 1) ∈ NWl := by decide +kernel
set_option maxRecDepth 100000 in
theorem st_fm : Cond.isRef (.static "jdk/internal/util/Preconditions" "SIOOBE_FORMATTER" "Ljava/util/function/BiFunction;") ∈ NWl := by decide +kernel
