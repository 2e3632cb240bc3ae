/-! EASY CALLS -/
theorem g_sI_ne {σ : St} {a k n j : Nat} {v : Int32} (h : ¬ (n = a ∧ j = k)) : gI (sI σ a k v) n j = gI σ n j := u2_ne h
theorem g_sI_c {σ : St} {a k n : Nat} {v : Int32} (h : n ≠ a) : gI (sI σ a k v) n = gI σ n := (sI_o n h).1
theorem g_sI_eq {σ : St} {a k : Nat} {v : Int32} : gI (sI σ a k v) a k = v := by
  show u2 σ.1 a k v a k = v
  unfold u2; rw [if_pos rfl, if_pos rfl]
theorem m_end {σ : St} (v : Int32) (h : Rtape σ) : ∃ r σ1 σ2, f_X9_end v σ = some (r, σ1) ∧ f_X10_end v σ1 = some (r, σ2) ∧ Rtape σ2 := by
  obtain ⟨h1, h2, h3, h4⟩ := h
  unfold f_X9_end f_X9_end_15 f_X10_end f_X10_end_12
  by_cases q1 : v < 0
  · exact ⟨0, σ, σ, by rw [if_pos q1], by rw [if_pos q1], h1, h2, h3, h4⟩
  · by_cases q2 : v ≤ gI σ 11 1
    · refine ⟨1, sI σ 11 1 v, sI (sI σ 11 1 v) 38 3 v, by rw [if_neg q1, if_pos q2], ?_, ?_⟩
      · rw [if_neg q1, if_pos (by rw [g_sI_ne (by omega), h1]; exact q2)]
      · rw [lI] at q1
        rw [leI] at q2
        have e0 : (0 : Int32).toInt = 0 := rfl
        refine ⟨?_, ?_, ?_, ?_⟩
        · rw [g_sI_eq, g_sI_ne (by omega), g_sI_eq]
        · rw [g_sI_ne (by omega), g_sI_eq]; unfold rg at h2 ⊢; omega
        · rw [g_sI_c (by omega), g_sI_c (by omega), g_sI_c (by omega), g_sI_c (by omega)]; exact h3
        · rw [g_sI_c (by omega), g_sI_c (by omega)]; exact h4
    · exact ⟨0, σ, σ, by rw [if_neg q1, if_neg q2], by rw [if_neg q1, if_neg (by rw [h1]; exact q2)], h1, h2, h3, h4⟩
theorem m_wind {σ : St} (v : Int64) (h : Rgoat σ) : ∃ σ1 σ2, f_X9_wind v σ = some σ1 ∧ f_X10_wind v σ1 = some σ2 ∧ Rgoat σ2 := by
  refine ⟨sJ σ 1 6 v, sJ (sJ σ 1 6 v) 38 18 v, rfl, rfl, ?_⟩
  obtain ⟨h1, h2, h3, h4, h5, h6⟩ := h
  refine ⟨h1, h2, h3, h4, ?_, h6⟩
  simp [gI_sI, gI_sJ, gI_sR, gJ_sI, gJ_sJ, gJ_sR, gR_sI, gR_sJ, gR_sR]
theorem m_told {σ : St} (v : Int32) (h : Rcnt σ) : ∃ r, f_X9_told v σ = some (r, σ) ∧ f_X10_told v σ = some (r, σ) := by
  obtain ⟨h1, h2, h3, h4, h5, h6, h7⟩ := h
  unfold f_X9_told f_X10_told f_X10_told_25
  rw [s_in]
  simp only [Option.bind_some, bZ_0, t64, t_0, t_1, t_2, t_3, t_4, t_5, t_6, t_7, t_8, t_9, t_10, t_11, t_12, t_13, t_18, t_19, t_20, t_31, t_32, t_40, t_48, t_57, t_99, t_100, t_160, t_255, t_511, t_999, t_1000, t_9999, t_100000, t_999999999, t_2147483647, t_m1, t_m2, l_0, l_1, l_2, l_3, l_5, l_6, l_9, l_10, l_12, l_99, l_100, l_511, l_999, l_1000, l_9999, l_1000000, l_999999999, l_1000000000000, l_1000000000000000000, l_m1]
  by_cases q : 0 ≤ v.toInt ∧ v.toInt ≤ 6
  · have hc : v = 0 ∨ v = 1 ∨ v = 2 ∨ v = 3 ∨ v = 4 ∨ v = 5 ∨ v = 6 := by
      simp only [eI, t_0, t_1, t_2, t_3, t_4, t_5, t_6, t_7, t_8, t_9, t_10, t_11, t_12, t_13, t_18, t_19, t_20, t_31, t_32, t_40, t_48, t_57, t_99, t_100, t_160, t_255, t_511, t_999, t_1000, t_9999, t_100000, t_999999999, t_2147483647, t_m1, t_m2, l_0, l_1, l_2, l_3, l_5, l_6, l_9, l_10, l_12, l_99, l_100, l_511, l_999, l_1000, l_9999, l_1000000, l_999999999, l_1000000000000, l_1000000000000000000, l_m1]; omega
    rcases hc with rfl | rfl | rfl | rfl | rfl | rfl | rfl
    · exact ⟨gI σ 1 7, rfl, by rw [← h1]; rfl⟩
    · exact ⟨gI σ 1 8, rfl, by rw [← h2]; rfl⟩
    · exact ⟨gI σ 1 9, rfl, by rw [← h3]; rfl⟩
    · exact ⟨gI σ 1 10, rfl, by rw [← h4]; rfl⟩
    · exact ⟨gI σ 1 11, rfl, by rw [← h5]; rfl⟩
    · exact ⟨gI σ 1 12, rfl, by rw [← h6]; rfl⟩
    · exact ⟨gI σ 0 13, rfl, by rw [← h7]; rfl⟩
  · refine ⟨-1, ?_, by rw [if_pos q]⟩
    simp only [eI, t_0, t_1, t_2, t_3, t_4, t_5, t_6, t_7, t_8, t_9, t_10, t_11, t_12, t_13, t_18, t_19, t_20, t_31, t_32, t_40, t_48, t_57, t_99, t_100, t_160, t_255, t_511, t_999, t_1000, t_9999, t_100000, t_999999999, t_2147483647, t_m1, t_m2, l_0, l_1, l_2, l_3, l_5, l_6, l_9, l_10, l_12, l_99, l_100, l_511, l_999, l_1000, l_9999, l_1000000, l_999999999, l_1000000000000, l_1000000000000000000, l_m1]
    rw [if_neg (by omega), if_neg (by omega), if_neg (by omega), if_neg (by omega), if_neg (by omega), if_neg (by omega), if_neg (by omega)]
theorem m_count {σ : St} (v : Int32) (h1 : gI σ 38 1 = gI σ 1 0) (h2 : gI σ 38 10 = gI σ 0 7) (h3 : gI σ 38 3 = gI σ 11 1) (h4 : gI σ 38 33 = gI σ 19 1) (h5 : gI σ 38 27 = gI σ 9 2) : ∃ r, f_X9_count v σ = some (r, σ) ∧ f_X10_count v σ = some (r, σ) := by
  have e : f_X10_count v σ = f_X9_count v σ := by
    unfold f_X10_count f_X9_count
    rw [h1, h2, h3, h4, h5]
  rw [e]
  have hs : ∃ r, f_X9_count v σ = some (r, σ) := by
    unfold f_X9_count
    repeat' split
    all_goals exact ⟨_, rfl⟩
  obtain ⟨r, hr⟩ := hs
  exact ⟨r, hr, hr⟩
theorem s_isNumber (v : Int32) (σ : St) : f_X9_isNumber v σ = some (bZ (0 ≤ v.toInt ∧ v.toInt ≤ 999999999), σ) := by
  unfold f_X9_isNumber f_X9_isNumber_15 f_X9_isNumber_16 bZ
  simp only [lI, t_0, t_1, t_2, t_3, t_4, t_5, t_6, t_7, t_8, t_9, t_10, t_11, t_12, t_13, t_18, t_19, t_20, t_31, t_32, t_40, t_48, t_57, t_99, t_100, t_160, t_255, t_511, t_999, t_1000, t_9999, t_100000, t_999999999, t_2147483647, t_m1, t_m2, l_0, l_1, l_2, l_3, l_5, l_6, l_9, l_10, l_12, l_99, l_100, l_511, l_999, l_1000, l_9999, l_1000000, l_999999999, l_1000000000000, l_1000000000000000000, l_m1, gd_t isbb_0, gd_t isbb_1]
  by_cases h1 : v.toInt < 0
  · rw [if_pos h1, if_neg (by omega)]
  · rw [if_neg h1]
    by_cases h2 : 999999999 < v.toInt
    · rw [if_pos h2, if_neg (by omega)]
    · rw [if_neg h2, if_pos (by omega)]
theorem c_harvest {σ : St} (v : Int32) (h2 : rg (gI σ 19 1) 0 8) : f_X9_harvest v σ = if (0 ≤ v.toInt ∧ v.toInt ≤ 999999999) ∧ (gI σ 19 1).toInt < 8 then some (gI σ 19 1 + 1, sI (sI σ 20 (gI σ 19 1).toNatClampNeg v) 19 1 (gI σ 19 1 + 1)) else some (-1, σ) := by
  unfold f_X9_harvest f_X9_harvest_19 f_X3_bringIn f_X3_bringIn_29
  obtain ⟨h2, h3⟩ := h2
  simp only [s_isNumber, Option.bind_some, bZ_0, lI, leI, t_0, t_1, t_2, t_3, t_4, t_5, t_6, t_7, t_8, t_9, t_10, t_11, t_12, t_13, t_18, t_19, t_20, t_31, t_32, t_40, t_48, t_57, t_99, t_100, t_160, t_255, t_511, t_999, t_1000, t_9999, t_100000, t_999999999, t_2147483647, t_m1, t_m2, l_0, l_1, l_2, l_3, l_5, l_6, l_9, l_10, l_12, l_99, l_100, l_511, l_999, l_1000, l_9999, l_1000000, l_999999999, l_1000000000000, l_1000000000000000000, l_m1]
  by_cases q : 0 ≤ v.toInt ∧ v.toInt ≤ 999999999
  · rw [if_neg (not_not_intro q)]
    by_cases q2 : (gI σ 19 1).toInt < 8
    · rw [if_pos (show (0 ≤ v.toInt ∧ v.toInt ≤ 999999999) ∧ (gI σ 19 1).toInt < 8 from ⟨q, q2⟩)]
      simp only [if_pos q2, if_neg (show ¬ 8 ≤ (gI σ 19 1).toInt by omega), gd_t (inb_i h2 (by omega : (gI σ 19 1).toInt < 8))]
      simp [gI_sI, gI_sJ, gI_sR, gJ_sI, gJ_sJ, gJ_sR, gR_sI, gR_sJ, gR_sR]
    · simp only [if_neg q2]
      rw [if_neg (fun c => q2 c.2)]
  · rw [if_pos q, if_neg (fun c => q c.1)]
theorem d_harvest {σ : St} (v : Int32) (h2 : rg (gI σ 38 33) 0 8) : f_X10_harvest v σ = if (0 ≤ v.toInt ∧ v.toInt ≤ 999999999) ∧ (gI σ 38 33).toInt < 8 then some (gI σ 38 33 + 1, sI (sI σ 54 (gI σ 38 33).toNatClampNeg v) 38 33 (gI σ 38 33 + 1)) else some (-1, σ) := by
  unfold f_X10_harvest f_X10_harvest_21 f_X10_harvest_43
  obtain ⟨h2, h3⟩ := h2
  simp only [s_in, Option.bind_some, bZ_0, t64, t_0, t_1, t_2, t_3, t_4, t_5, t_6, t_7, t_8, t_9, t_10, t_11, t_12, t_13, t_18, t_19, t_20, t_31, t_32, t_40, t_48, t_57, t_99, t_100, t_160, t_255, t_511, t_999, t_1000, t_9999, t_100000, t_999999999, t_2147483647, t_m1, t_m2, l_0, l_1, l_2, l_3, l_5, l_6, l_9, l_10, l_12, l_99, l_100, l_511, l_999, l_1000, l_9999, l_1000000, l_999999999, l_1000000000000, l_1000000000000000000, l_m1]
  by_cases q : 0 ≤ v.toInt ∧ v.toInt ≤ 999999999
  · rw [if_neg (not_not_intro q)]
    by_cases q2 : (gI σ 38 33).toInt < 8
    · rw [if_pos (show (0 ≤ v.toInt ∧ v.toInt ≤ 999999999) ∧ (gI σ 38 33).toInt < 8 from ⟨q, q2⟩)]
      simp only [if_neg (show ¬ (gI σ 38 33) = 8 by rw [eI, t_8]; omega), gd_t (inb_i h2 (by omega : (gI σ 38 33).toInt < 8))]
      simp [gI_sI, gI_sJ, gI_sR, gJ_sI, gJ_sJ, gJ_sR, gR_sI, gR_sJ, gR_sR]
    · simp only [if_pos (show (gI σ 38 33) = 8 by rw [eI, t_8]; omega)]
      rw [if_neg (fun c => q2 c.2)]
  · rw [if_pos q, if_neg (fun c => q c.1)]
theorem m_harvest {σ : St} (v : Int32) (h : Rhar σ) : ∃ r σ1 σ2, f_X9_harvest v σ = some (r, σ1) ∧ f_X10_harvest v σ1 = some (r, σ2) ∧ Rhar σ2 := by
  obtain ⟨h1, h2, h3, h4⟩ := h
  rw [c_harvest v h2]
  by_cases q : (0 ≤ v.toInt ∧ v.toInt ≤ 999999999) ∧ (gI σ 19 1).toInt < 8
  · rw [if_pos q]
    refine ⟨_, _, sI (sI (sI (sI σ 20 (gI σ 19 1).toNatClampNeg v) 19 1 (gI σ 19 1 + 1)) 54 (gI σ 19 1).toNatClampNeg v) 38 33 (gI σ 19 1 + 1), rfl, ?_, ?_⟩
    · have e : gI (sI (sI σ 20 (gI σ 19 1).toNatClampNeg v) 19 1 (gI σ 19 1 + 1)) 38 33 = gI σ 19 1 := by simp [gI_sI, gI_sJ, gI_sR, gJ_sI, gJ_sJ, gJ_sR, gR_sI, gR_sJ, gR_sR, h1]
      rw [d_harvest v (by rw [e]; exact h2), e, if_pos q]
    · obtain ⟨a1, a2⟩ := h2
      refine ⟨by simp [gI_sI, gI_sJ, gI_sR, gJ_sI, gJ_sJ, gJ_sR, gR_sI, gR_sJ, gR_sR], ?_, ?_, ?_⟩
      · have e : gI (sI (sI (sI (sI σ 20 (gI σ 19 1).toNatClampNeg v) 19 1 (gI σ 19 1 + 1)) 54 (gI σ 19 1).toNatClampNeg v) 38 33 (gI σ 19 1 + 1)) 19 1 = gI σ 19 1 + 1 := by simp [gI_sI, gI_sJ, gI_sR, gJ_sI, gJ_sJ, gJ_sR, gR_sI, gR_sJ, gR_sR]
        rw [e]; unfold rg
        rw [tadd (by rw [t_1]; omega) (by rw [t_1]; omega), t_1]; omega
      · funext j
        have := congrFun h3 j
        simp [gI_sI, gI_sJ, gI_sR, gJ_sI, gJ_sJ, gJ_sR, gR_sI, gR_sJ, gR_sR, this]
      · intro j
        have := h4 j
        by_cases hj : j = (gI σ 19 1).toNatClampNeg
        · have e : gI (sI (sI (sI (sI σ 20 (gI σ 19 1).toNatClampNeg v) 19 1 (gI σ 19 1 + 1)) 54 (gI σ 19 1).toNatClampNeg v) 38 33 (gI σ 19 1 + 1)) 20 j = v := by simp [gI_sI, gI_sJ, gI_sR, gJ_sI, gJ_sJ, gJ_sR, gR_sI, gR_sJ, gR_sR, hj]
          rw [e]; exact q.1
        · have e : gI (sI (sI (sI (sI σ 20 (gI σ 19 1).toNatClampNeg v) 19 1 (gI σ 19 1 + 1)) 54 (gI σ 19 1).toNatClampNeg v) 38 33 (gI σ 19 1 + 1)) 20 j = gI σ 20 j := by simp [gI_sI, gI_sJ, gI_sR, gJ_sI, gJ_sJ, gJ_sR, gR_sI, gR_sJ, gR_sR, hj]
          rw [e]; exact this
  · rw [if_neg q]
    exact ⟨_, _, σ, rfl, by rw [d_harvest v (by rw [h1]; exact h2), if_neg (by rw [h1]; exact q)], h1, h2, h3, h4⟩
