/-! what the Statement gives at the law's start, as the abstract machine needs it: strings -/
section STRS
def ab_tm (i : Nat) : Term := match ab_str[i]? with
  | some q => .string q.1 q.2.1
  | none => .string "" 0
def ab_fl1 : List Cond := flatC (Jvm.Cond.and given_1 narrow_1)
theorem sx_ex : ∀ i, i < 17 → Cond.exactly (ab_tm i) "java/lang/String" ∈ ab_fl1 := by decide +kernel
theorem sx_co : ∀ i, i < 17 → Cond.eq (.field (ab_tm i) "java/lang/String" "coder" "B") (.int 0) ∈ ab_fl1 := by decide +kernel
theorem sx_ar : ∀ i, i < 17 → Cond.arrayOf (.field (ab_tm i) "java/lang/String" "value" "[B") .byte ∈ ab_fl1 := by decide +kernel
theorem sx_le : ∀ i, i < 17 → Cond.eq (.length (.field (ab_tm i) "java/lang/String" "value" "[B")) (.int (Int32.ofNat (ab_sl.getD i 0))) ∈ ab_fl1 := by decide +kernel
theorem sx_el : ∀ i, i < 17 → ∀ j, j < ab_sl.getD i 0 → Cond.eq (.elem (.field (ab_tm i) "java/lang/String" "value" "[B") (.int (Int32.ofNat j))) (.int ((ab_sb.getD i []).getD j 0)) ∈ ab_fl1 := by decide +kernel
theorem sx_ne : ∀ i, i < 17 → ∀ j, j < 17 → i ≠ j → (Cond.not (Cond.eq (ab_tm i) (ab_tm j)) ∈ ab_fl1 ∨ Cond.not (Cond.eq (ab_tm j) (ab_tm i)) ∈ ab_fl1) := by decide +kernel
theorem sx_31 : ∀ i, i < 17 → ab_sl.getD i 0 < 2 ^ 31 := by decide +kernel
theorem sx_st : ∀ q ∈ ab_str, Cond.stringRef q.1 q.2.1 q.2.2 ∈ lw_tbl := by decide +kernel
theorem sx_th : ∀ w ∈ ab_thw, w ∈ lw_tbl := by decide +kernel
theorem sx_ini : Cond.initialized "java/lang/String" ∈ lw_tbl ∧ Cond.initialized "jdk/internal/util/Preconditions" ∈ lw_tbl ∧ Cond.initialized Bundle.tN ∈ lw_tbl := by decide +kernel
theorem sx_lay : Cond.laysStatic "java/lang/String" "COMPACT_STRINGS" "Z" ∈ lw_tbl ∧ Cond.laysStatic "jdk/internal/util/Preconditions" "SIOOBE_FORMATTER" "Ljava/util/function/BiFunction;" ∈ lw_tbl ∧ Cond.laysStatic Bundle.tN "UNASSIGNED_STACK" Bundle.steD ∈ lw_tbl ∧ Cond.laysStatic Bundle.tN "SUPPRESSED_SENTINEL" Bundle.listD ∈ lw_tbl := by decide +kernel
theorem sx_val : Cond.eq (.static "java/lang/String" "COMPACT_STRINGS" "Z") (.int 1) ∈ ab_fl1 ∧ Cond.isRef (.static "jdk/internal/util/Preconditions" "SIOOBE_FORMATTER" "Ljava/util/function/BiFunction;") ∈ ab_fl1 ∧ Cond.isRef (.static Bundle.tN "UNASSIGNED_STACK" Bundle.steD) ∈ ab_fl1 ∧ Cond.isRef (.static Bundle.tN "SUPPRESSED_SENTINEL" Bundle.listD) ∈ ab_fl1 := by decide +kernel
theorem sx_arr : Cond.arrayClass .int ∈ lw_tbl ∧ Cond.arrayClass .long ∈ lw_tbl ∧ Cond.arrayClass .boolean ∈ lw_tbl ∧ Cond.arrayOver (.object "WheelPens$Sheet") ∈ lw_tbl := by decide +kernel
theorem sx_new : Cond.instantiable RX0 9 ∈ lw_tbl ∧ Cond.instantiable RX1 18 ∈ lw_tbl ∧ Cond.instantiable RX2 4 ∈ lw_tbl ∧ Cond.instantiable RX3 9 ∈ lw_tbl ∧ Cond.instantiable RX4 9 ∈ lw_tbl ∧ Cond.instantiable RX5 6 ∈ lw_tbl ∧ Cond.instantiable RX6 3 ∈ lw_tbl ∧ Cond.instantiable RX7 4 ∈ lw_tbl ∧ Cond.instantiable RX8 7 ∈ lw_tbl ∧ Cond.instantiable RX9 12 ∈ lw_tbl ∧ Cond.instantiable RX10 11 ∈ lw_tbl ∧ Cond.instantiable RX11 14 ∈ lw_tbl ∧ Cond.instantiable RX12 66 ∈ lw_tbl := by decide +kernel
end STRS
