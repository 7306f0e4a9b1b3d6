/-! what stands fixed at the law's entry -/
def lx_gv : List Cond := flatC (Jvm.Cond.and given_1 narrow_1)
def lx_ix : List Nat := [69, 77, 79, 81, 83, 85, 87, 89, 91, 93]
def lx_tm (i : Nat) : Term := .string "CourtProgress$Tape" (lx_ix.getD i 0)
def lx_vl (i : Nat) : Term := .field (lx_tm i) "java/lang/String" "value" "[B"
def lx_w1 (i : Nat) : Cond := .exactly (lx_tm i) "java/lang/String"
def lx_w2 (i : Nat) : Cond := .eq (.field (lx_tm i) "java/lang/String" "coder" "B") (.int 0)
def lx_w3 (i : Nat) : Cond := .arrayOf (lx_vl i) .byte
def lx_w4 (i : Nat) : Cond := .eq (.length (lx_vl i)) (.int (Int32.ofNat (ai_lns.getD i 0)))
def lx_w5 (i j : Nat) : Cond := .eq (.elem (lx_vl i) (.int (Int32.ofNat j))) (.int ((ai_byt.getD i []).getD j 0))
def lx_w6 (i j : Nat) : Cond := .not (.eq (lx_tm i) (lx_tm j))
theorem lx_ok1 : ((List.range 10).all fun i => decide (lx_w1 i ∈ lx_gv) && (decide (lx_w2 i ∈ lx_gv) && (decide (lx_w3 i ∈ lx_gv) && (decide (lx_w4 i ∈ lx_gv) && ((List.range (ai_lns.getD i 0)).all fun j => decide (lx_w5 i j ∈ lx_gv)))))) = true := by decide +kernel
theorem lx_ok2 : ((List.range 10).all fun i => (List.range 10).all fun j => decide (i = j) || (decide (lx_w6 i j ∈ lx_gv) || decide (lx_w6 j i ∈ lx_gv))) = true := by decide +kernel
theorem lx_ok3 : (ai_stk.all fun r => decide (r.2.2.1 < 10) && (decide (Term.string r.1 r.2.1 = lx_tm r.2.2.1) || decide (Cond.eq (lx_tm r.2.2.1) (.string r.1 r.2.1) ∈ lx_gv))) = true := by decide +kernel
theorem lx_ok4 : (ai_cl.all fun r => decide (Cond.instantiable r.1 r.2.2 ∈ lw_tbl)) = true := by decide +kernel
theorem lx_ok5 : ∀ w ∈ [Cond.arrayClass .int, .arrayClass .byte, .arrayClass .boolean, .laysStatic "java/lang/String" "COMPACT_STRINGS" "Z", .initialized "java/lang/String", .laysStatic "java/lang/Throwable" "UNASSIGNED_STACK" "[Ljava/lang/StackTraceElement;", .initialized "java/lang/Throwable", .laysStatic "java/lang/Throwable" "SUPPRESSED_SENTINEL" "Ljava/util/List;", .laysStatic "jdk/internal/util/Preconditions" "SIOOBE_FORMATTER" "Ljava/util/function/BiFunction;", .initialized "jdk/internal/util/Preconditions"], w ∈ lw_tbl := by decide +kernel
theorem lx_ok6 : ∀ w ∈ [Cond.eq (.static "java/lang/String" "COMPACT_STRINGS" "Z") (.int 1), .isRef (.static "java/lang/Throwable" "UNASSIGNED_STACK" "[Ljava/lang/StackTraceElement;"), .isRef (.static "java/lang/Throwable" "SUPPRESSED_SENTINEL" "Ljava/util/List;"), .isRef (.static "jdk/internal/util/Preconditions" "SIOOBE_FORMATTER" "Ljava/util/function/BiFunction;")], w ∈ lx_gv := by decide +kernel
