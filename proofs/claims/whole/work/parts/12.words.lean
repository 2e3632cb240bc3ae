/-! THE TABLE IS TRUE -/
theorem wl_X0_a : ∀ w ∈ wl_X0, w ∈ lw_tbl := by decide +kernel
theorem wl_X0_b : wl_X0.all goodWord = true := by decide +kernel
theorem wl_X0_g : ∀ w ∈ wl_X0, w ∈ gW := fun w h => List.mem_filter.mpr ⟨wl_X0_a w h, List.all_eq_true.mp wl_X0_b w h⟩
theorem wl_J9_a : ∀ w ∈ wl_J9, w ∈ lw_tbl := by decide +kernel
theorem wl_J9_b : wl_J9.all goodWord = true := by decide +kernel
theorem wl_J9_g : ∀ w ∈ wl_J9, w ∈ gW := fun w h => List.mem_filter.mpr ⟨wl_J9_a w h, List.all_eq_true.mp wl_J9_b w h⟩
theorem wl_X9_a : ∀ w ∈ wl_X9, w ∈ lw_tbl := by decide +kernel
theorem wl_X9_b : wl_X9.all goodWord = true := by decide +kernel
theorem wl_X9_g : ∀ w ∈ wl_X9, w ∈ gW := fun w h => List.mem_filter.mpr ⟨wl_X9_a w h, List.all_eq_true.mp wl_X9_b w h⟩
theorem wl_X7_a : ∀ w ∈ wl_X7, w ∈ lw_tbl := by decide +kernel
theorem wl_X7_b : wl_X7.all goodWord = true := by decide +kernel
theorem wl_X7_g : ∀ w ∈ wl_X7, w ∈ gW := fun w h => List.mem_filter.mpr ⟨wl_X7_a w h, List.all_eq_true.mp wl_X7_b w h⟩
theorem wl_X1_a : ∀ w ∈ wl_X1, w ∈ lw_tbl := by decide +kernel
theorem wl_X1_b : wl_X1.all goodWord = true := by decide +kernel
theorem wl_X1_g : ∀ w ∈ wl_X1, w ∈ gW := fun w h => List.mem_filter.mpr ⟨wl_X1_a w h, List.all_eq_true.mp wl_X1_b w h⟩
theorem wl_J7_a : ∀ w ∈ wl_J7, w ∈ lw_tbl := by decide +kernel
theorem wl_J7_b : wl_J7.all goodWord = true := by decide +kernel
theorem wl_J7_g : ∀ w ∈ wl_J7, w ∈ gW := fun w h => List.mem_filter.mpr ⟨wl_J7_a w h, List.all_eq_true.mp wl_J7_b w h⟩
theorem wl_X2_a : ∀ w ∈ wl_X2, w ∈ lw_tbl := by decide +kernel
theorem wl_X2_b : wl_X2.all goodWord = true := by decide +kernel
theorem wl_X2_g : ∀ w ∈ wl_X2, w ∈ gW := fun w h => List.mem_filter.mpr ⟨wl_X2_a w h, List.all_eq_true.mp wl_X2_b w h⟩
theorem wl_X3_a : ∀ w ∈ wl_X3, w ∈ lw_tbl := by decide +kernel
theorem wl_X3_b : wl_X3.all goodWord = true := by decide +kernel
theorem wl_X3_g : ∀ w ∈ wl_X3, w ∈ gW := fun w h => List.mem_filter.mpr ⟨wl_X3_a w h, List.all_eq_true.mp wl_X3_b w h⟩
theorem wl_X4_a : ∀ w ∈ wl_X4, w ∈ lw_tbl := by decide +kernel
theorem wl_X4_b : wl_X4.all goodWord = true := by decide +kernel
theorem wl_X4_g : ∀ w ∈ wl_X4, w ∈ gW := fun w h => List.mem_filter.mpr ⟨wl_X4_a w h, List.all_eq_true.mp wl_X4_b w h⟩
theorem wl_X5_a : ∀ w ∈ wl_X5, w ∈ lw_tbl := by decide +kernel
theorem wl_X5_b : wl_X5.all goodWord = true := by decide +kernel
theorem wl_X5_g : ∀ w ∈ wl_X5, w ∈ gW := fun w h => List.mem_filter.mpr ⟨wl_X5_a w h, List.all_eq_true.mp wl_X5_b w h⟩
theorem wl_X6_a : ∀ w ∈ wl_X6, w ∈ lw_tbl := by decide +kernel
theorem wl_X6_b : wl_X6.all goodWord = true := by decide +kernel
theorem wl_X6_g : ∀ w ∈ wl_X6, w ∈ gW := fun w h => List.mem_filter.mpr ⟨wl_X6_a w h, List.all_eq_true.mp wl_X6_b w h⟩
theorem wl_X8_a : ∀ w ∈ wl_X8, w ∈ lw_tbl := by decide +kernel
theorem wl_X8_b : wl_X8.all goodWord = true := by decide +kernel
theorem wl_X8_g : ∀ w ∈ wl_X8, w ∈ gW := fun w h => List.mem_filter.mpr ⟨wl_X8_a w h, List.all_eq_true.mp wl_X8_b w h⟩
theorem wl_J6_a : ∀ w ∈ wl_J6, w ∈ lw_tbl := by decide +kernel
theorem wl_J6_b : wl_J6.all goodWord = true := by decide +kernel
theorem wl_J6_g : ∀ w ∈ wl_J6, w ∈ gW := fun w h => List.mem_filter.mpr ⟨wl_J6_a w h, List.all_eq_true.mp wl_J6_b w h⟩
theorem wl_X10_a : ∀ w ∈ wl_X10, w ∈ lw_tbl := by decide +kernel
theorem wl_X10_b : wl_X10.all goodWord = true := by decide +kernel
theorem wl_X10_g : ∀ w ∈ wl_X10, w ∈ gW := fun w h => List.mem_filter.mpr ⟨wl_X10_a w h, List.all_eq_true.mp wl_X10_b w h⟩
theorem wl_L_a : ∀ w ∈ wl_L, w ∈ lw_tbl := by decide +kernel
theorem wl_L_b : wl_L.all goodWord = true := by decide +kernel
theorem wl_L_g : ∀ w ∈ wl_L, w ∈ gW := fun w h => List.mem_filter.mpr ⟨wl_L_a w h, List.all_eq_true.mp wl_L_b w h⟩
