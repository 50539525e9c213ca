/-! What stands at the law's entry. -/
abbrev gFl : List Cond := flatC (Jvm.Cond.and given_1 narrow_1)
abbrev tSt (i : Nat) : Term := .string (cSo i) (cSi i)
abbrev fVal (t : Term) : Term := .field t "java/lang/String" "value" "[B"
set_option maxRecDepth 100000 in
theorem gs_ex : ∀ i, i < 10 → Cond.exactly (tSt i) "java/lang/String" ∈ gFl := by decide +kernel
set_option maxRecDepth 100000 in
theorem gs_co : ∀ i, i < 10 → Cond.eq (.field (tSt i) "java/lang/String" "coder" "B") (.int 0) ∈ gFl := by decide +kernel
set_option maxRecDepth 100000 in
theorem gs_ar : ∀ i, i < 10 → Cond.arrayOf (fVal (tSt i)) .byte ∈ gFl := by decide +kernel
set_option maxRecDepth 100000 in
theorem gs_le : ∀ i, i < 10 → Cond.eq (.length (fVal (tSt i))) (.int (Int32.ofNat (cLen.getD i 0))) ∈ gFl := by decide +kernel
set_option maxRecDepth 100000 in
theorem gs_el : ∀ i, i < 10 → ∀ j, j < cLen.getD i 0 → Cond.eq (.elem (fVal (tSt i)) (.int (Int32.ofNat j))) (.int ((cByt.getD i []).getD j 0)) ∈ gFl := by decide +kernel
set_option maxRecDepth 100000 in
theorem gs_ne : ∀ i, i < 10 → ∀ j, j < 10 → i ≠ j → Cond.not (Cond.eq (tSt i) (tSt j)) ∈ gFl ∨ Cond.not (Cond.eq (tSt j) (tSt i)) ∈ gFl := by decide +kernel
def tTn : List (String × String) := [("WhereFound", "SETTING_LEAST"), ("WhereFound", "SETTING_MOST"), ("WhereFound", "SETTING_AT_FIRST"), ("WhereFound$Text", "NUMBERS_OF_FORM")]
abbrev tTm (k : Nat) : Term := .static (tTn.getD k ("", "")).1 (tTn.getD k ("", "")).2 "[I"
set_option maxRecDepth 100000 in
theorem gt_ar : ∀ k, k < 4 → Cond.arrayOf (tTm k) .int ∈ gFl := by decide +kernel
set_option maxRecDepth 100000 in
theorem gt_le : ∀ k, k < 4 → Cond.eq (.length (tTm k)) (.int (Int32.ofNat 6)) ∈ gFl := by decide +kernel
set_option maxRecDepth 100000 in
theorem gt_el : ∀ k, k < 4 → ∀ j, j < 6 → Cond.eq (.elem (tTm k) (.int (Int32.ofNat j))) (.int (cTab k j)) ∈ gFl := by decide +kernel
set_option maxRecDepth 100000 in
theorem gz_cs : Cond.eq (.static "java/lang/String" "COMPACT_STRINGS" "Z") (.int 1) ∈ gFl := by decide +kernel
set_option maxRecDepth 100000 in
theorem gz_si : Cond.isRef (.static "jdk/internal/util/Preconditions" "SIOOBE_FORMATTER" "Ljava/util/function/BiFunction;") ∈ gFl := by decide +kernel
set_option maxRecDepth 100000 in
theorem gz_us : Cond.isRef (.static Bundle.tN "UNASSIGNED_STACK" Bundle.steD) ∈ gFl := by decide +kernel
set_option maxRecDepth 100000 in
theorem gz_ss : Cond.isRef (.static Bundle.tN "SUPPRESSED_SENTINEL" Bundle.listD) ∈ gFl := by decide +kernel
set_option maxRecDepth 100000 in
theorem gl_t : ∀ k, k < 4 → Cond.laysStatic (tTn.getD k ("", "")).1 (tTn.getD k ("", "")).2 "[I" ∈ lw_tbl ∧ Cond.initialized (tTn.getD k ("", "")).1 ∈ lw_tbl := by decide +kernel
set_option maxRecDepth 100000 in
theorem gl_z : (Cond.laysStatic "java/lang/String" "COMPACT_STRINGS" "Z" ∈ lw_tbl ∧ Cond.initialized "java/lang/String" ∈ lw_tbl) ∧ (Cond.laysStatic "jdk/internal/util/Preconditions" "SIOOBE_FORMATTER" "Ljava/util/function/BiFunction;" ∈ lw_tbl ∧ Cond.initialized "jdk/internal/util/Preconditions" ∈ lw_tbl) ∧ (Cond.laysStatic Bundle.tN "UNASSIGNED_STACK" Bundle.steD ∈ lw_tbl ∧ Cond.initialized Bundle.tN ∈ lw_tbl) ∧ Cond.laysStatic Bundle.tN "SUPPRESSED_SENTINEL" Bundle.listD ∈ lw_tbl := by decide +kernel
set_option maxRecDepth 100000 in
theorem gl_s : ∀ i, i < 10 → Cond.stringRef (cSo i) (cSi i) (cSx i) ∈ lw_tbl := by decide +kernel
set_option maxRecDepth 100000 in
theorem gl_ao : Cond.arrayOver (.object RX1) ∈ lw_tbl := by decide +kernel
