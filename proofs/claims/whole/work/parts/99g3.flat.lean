/-! what the statement gives of the start, in a row -/
abbrev hLs : List Cond := flatC (Jvm.Cond.and given_1 narrow_1)
def hEl (own : String) (k j : Nat) : Cond := Cond.eq (.elem (.field (.string own k) "java/lang/String" "value" "[B") (.int (Int32.ofNat j))) (.int (g_wby.getD j 0))
theorem hm_8L : (hLs.drop 41).take 107 = (List.range 107).map (hEl RX8 35) := by decide +kernel
theorem hm_11L : (hLs.drop 189).take 107 = (List.range 107).map (hEl RX11 200) := by decide +kernel
theorem hm_8 (j : Nat) (hj : j < 107) : hEl RX8 35 j ∈ hLs := by
  have h : hEl RX8 35 j ∈ (List.range 107).map (hEl RX8 35) := List.mem_map.mpr ⟨j, List.mem_range.mpr hj, rfl⟩
  rw [← hm_8L] at h
  exact List.mem_of_mem_drop (List.mem_of_mem_take h)
theorem hm_11 (j : Nat) (hj : j < 107) : hEl RX11 200 j ∈ hLs := by
  have h : hEl RX11 200 j ∈ (List.range 107).map (hEl RX11 200) := List.mem_map.mpr ⟨j, List.mem_range.mpr hj, rfl⟩
  rw [← hm_11L] at h
  exact List.mem_of_mem_drop (List.mem_of_mem_take h)
theorem hm_o : ∀ w ∈ [Cond.exactly (.string RX8 35) "java/lang/String", Cond.eq (.field (.string RX8 35) "java/lang/String" "coder" "B") (.int 0), Cond.arrayOf (.field (.string RX8 35) "java/lang/String" "value" "[B") .byte, Cond.eq (.length (.field (.string RX8 35) "java/lang/String" "value" "[B")) (.int (Int32.ofNat 107)),
    Cond.exactly (.string RX11 200) "java/lang/String", Cond.eq (.field (.string RX11 200) "java/lang/String" "coder" "B") (.int 0), Cond.arrayOf (.field (.string RX11 200) "java/lang/String" "value" "[B") .byte, Cond.eq (.length (.field (.string RX11 200) "java/lang/String" "value" "[B")) (.int (Int32.ofNat 107)),
    Cond.exactly (.string RX10 125) "java/lang/String", Cond.exactly (.string RX10 145) "java/lang/String", Cond.eq (.static "java/lang/String" "COMPACT_STRINGS" "Z") (.int 1), Cond.isRef (.static "jdk/internal/util/Preconditions" "SIOOBE_FORMATTER" "Ljava/util/function/BiFunction;"),
    Cond.isRef (.static Bundle.tN "UNASSIGNED_STACK" Bundle.steD), Cond.isRef (.static Bundle.tN "SUPPRESSED_SENTINEL" Bundle.listD), Cond.not (.castable xN xI)], w ∈ hLs := by decide +kernel
