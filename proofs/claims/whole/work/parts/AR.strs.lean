/-! what the Statement gives at the law's start, as the abstract machine needs it: strings -/
section STRS
def ab_tm (i : Nat) : Term := match ab_str[i]? with
  | some q => .string q.1 q.2.1
  | none => .string "" 0
def ab_fl1 : List Cond := flatC (Jvm.Cond.and given_1 narrow_1)
def sx_v (i : Nat) : Term := .field (ab_tm i) "java/lang/String" "value" "[B"
/-- what the Statement gives of the string i, in its order -/
def sx_blk (i : Nat) : List Cond := [Cond.exactly (ab_tm i) "java/lang/String", Cond.eq (.field (ab_tm i) "java/lang/String" "coder" "B") (.int 0), Cond.arrayOf (sx_v i) .byte, Cond.eq (.length (sx_v i)) (.int (Int32.ofNat (ab_sl.getD i 0)))] ++ ((List.range (ab_sl.getD i 0)).map (fun j => Cond.eq (.elem (sx_v i) (.int (Int32.ofNat j))) (.int ((ab_sb.getD i []).getD j 0))) ++ (List.range i).map (fun j => Cond.not (Cond.eq (ab_tm j) (ab_tm i))))
theorem sx_all : ab_fl1.drop 24 = (List.range 17).flatMap sx_blk := by decide +kernel
theorem sx_in {i : Nat} (hi : i < 17) {c : Cond} (hc : c ∈ sx_blk i) : c ∈ ab_fl1 := by
  refine List.mem_of_mem_drop (i := 24) ?_
  rw [sx_all]
  exact List.mem_flatMap.mpr ⟨i, List.mem_range.mpr hi, hc⟩
theorem sx_ex (i : Nat) (hi : i < 17) : Cond.exactly (ab_tm i) "java/lang/String" ∈ ab_fl1 := sx_in hi (List.mem_append_left _ (by simp))
theorem sx_co (i : Nat) (hi : i < 17) : Cond.eq (.field (ab_tm i) "java/lang/String" "coder" "B") (.int 0) ∈ ab_fl1 := sx_in hi (List.mem_append_left _ (by simp))
theorem sx_ar (i : Nat) (hi : i < 17) : Cond.arrayOf (.field (ab_tm i) "java/lang/String" "value" "[B") .byte ∈ ab_fl1 := sx_in hi (List.mem_append_left _ (by simp [sx_v]))
theorem sx_le (i : Nat) (hi : i < 17) : Cond.eq (.length (.field (ab_tm i) "java/lang/String" "value" "[B")) (.int (Int32.ofNat (ab_sl.getD i 0))) ∈ ab_fl1 := sx_in hi (List.mem_append_left _ (List.mem_cons_of_mem _ (List.mem_cons_of_mem _ (List.mem_cons_of_mem _ List.mem_cons_self))))
theorem sx_el (i : Nat) (hi : i < 17) (j : Nat) (hj : j < ab_sl.getD i 0) : Cond.eq (.elem (.field (ab_tm i) "java/lang/String" "value" "[B") (.int (Int32.ofNat j))) (.int ((ab_sb.getD i []).getD j 0)) ∈ ab_fl1 := sx_in hi (List.mem_append_right _ (List.mem_append_left _ (List.mem_map.mpr ⟨j, List.mem_range.mpr hj, rfl⟩)))
theorem sx_ne0 (i j : Nat) (hi : i < 17) (hj : j < i) : Cond.not (Cond.eq (ab_tm j) (ab_tm i)) ∈ ab_fl1 := sx_in hi (List.mem_append_right _ (List.mem_append_right _ (List.mem_map.mpr ⟨j, List.mem_range.mpr hj, rfl⟩)))
theorem sx_ne (i : Nat) (hi : i < 17) (j : Nat) (hj : j < 17) (h : i ≠ j) : Cond.not (Cond.eq (ab_tm i) (ab_tm j)) ∈ ab_fl1 ∨ Cond.not (Cond.eq (ab_tm j) (ab_tm i)) ∈ ab_fl1 := by
  rcases Nat.lt_or_gt_of_ne h with g | g
  · exact Or.inl (sx_ne0 j i hj g)
  · exact Or.inr (sx_ne0 i j hi g)
theorem sx_31 : ∀ i, i < 17 → ab_sl.getD i 0 < 2 ^ 31 := by decide +kernel
theorem sx_st : ∀ q ∈ ab_str, Cond.stringRef q.1 q.2.1 q.2.2 ∈ lw_tbl := by decide +kernel
theorem sx_th : ∀ w ∈ ab_thw, w ∈ lw_tbl := by decide +kernel
theorem sx_ini : Cond.initialized "java/lang/String" ∈ lw_tbl ∧ Cond.initialized "jdk/internal/util/Preconditions" ∈ lw_tbl ∧ Cond.initialized Bundle.tN ∈ lw_tbl := by decide +kernel
theorem sx_lay : Cond.laysStatic "java/lang/String" "COMPACT_STRINGS" "Z" ∈ lw_tbl ∧ Cond.laysStatic "jdk/internal/util/Preconditions" "SIOOBE_FORMATTER" "Ljava/util/function/BiFunction;" ∈ lw_tbl ∧ Cond.laysStatic Bundle.tN "UNASSIGNED_STACK" Bundle.steD ∈ lw_tbl ∧ Cond.laysStatic Bundle.tN "SUPPRESSED_SENTINEL" Bundle.listD ∈ lw_tbl := by decide +kernel
theorem sx_val : Cond.eq (.static "java/lang/String" "COMPACT_STRINGS" "Z") (.int 1) ∈ ab_fl1 ∧ Cond.isRef (.static "jdk/internal/util/Preconditions" "SIOOBE_FORMATTER" "Ljava/util/function/BiFunction;") ∈ ab_fl1 ∧ Cond.isRef (.static Bundle.tN "UNASSIGNED_STACK" Bundle.steD) ∈ ab_fl1 ∧ Cond.isRef (.static Bundle.tN "SUPPRESSED_SENTINEL" Bundle.listD) ∈ ab_fl1 := by decide +kernel
theorem sx_arr : Cond.arrayClass .int ∈ lw_tbl ∧ Cond.arrayClass .long ∈ lw_tbl ∧ Cond.arrayClass .boolean ∈ lw_tbl ∧ Cond.arrayOver (.object "WheelPens$Sheet") ∈ lw_tbl := by decide +kernel
theorem sx_new : Cond.instantiable RX0 9 ∈ lw_tbl ∧ Cond.instantiable RX1 18 ∈ lw_tbl ∧ Cond.instantiable RX2 4 ∈ lw_tbl ∧ Cond.instantiable RX3 9 ∈ lw_tbl ∧ Cond.instantiable RX4 9 ∈ lw_tbl ∧ Cond.instantiable RX5 6 ∈ lw_tbl ∧ Cond.instantiable RX6 3 ∈ lw_tbl ∧ Cond.instantiable RX7 4 ∈ lw_tbl ∧ Cond.instantiable RX8 7 ∈ lw_tbl ∧ Cond.instantiable RX9 12 ∈ lw_tbl ∧ Cond.instantiable RX10 11 ∈ lw_tbl ∧ Cond.instantiable RX11 14 ∈ lw_tbl ∧ Cond.instantiable RX12 66 ∈ lw_tbl := by decide +kernel
end STRS
