theorem as_nz (N : Nat) (hN : N ≤ 9) : nzJ (jZ (10 ^ (2 * N))) = true ∧ (¬ lg_cmp (jZ (10 ^ (2 * N))) 1000000 < 0 → nzJ (jZ (10 ^ (2 * N)) / 1000000) = true) := by
  rw [cmL]
  have hc : N = 0 ∨ N = 1 ∨ N = 2 ∨ N = 3 ∨ N = 4 ∨ N = 5 ∨ N = 6 ∨ N = 7 ∨ N = 8 ∨ N = 9 := by omega
  rcases hc with rfl | rfl | rfl | rfl | rfl | rfl | rfl | rfl | rfl | rfl <;> decide
theorem m_as {σ : St} (x1 x2 : Int32) (h : Rear σ) : ∃ a, f_X9_as x1 x2 σ = some (a, σ) ∧ f_X10_as x1 x2 σ = some (a, σ) := by
  unfold f_X9_as f_X9_as_14 f_X10_as f_X10_as_24 f_X10_as_74
  simp only [s_isNumber, s_in, Option.bind_some, bZ_0, t64, l_0, l_999999999]
  by_cases q1 : 0 ≤ x1.toInt ∧ x1.toInt ≤ 999999999
  · rw [if_neg (not_not_intro q1), if_neg (not_not_intro q1)]
    by_cases q2 : 0 ≤ x2.toInt ∧ x2.toInt ≤ 999999999
    · rw [if_neg (not_not_intro q2), if_neg (not_not_intro q2)]
      have e9 : 10 ^ 9 = 1000000000 := by decide
      have e13 : 10 ^ 13 = 10000000000000 := by decide
      have e18 : 10 ^ 18 = 1000000000000000000 := by decide
      have ex1 := iZof q1.1
      have ex2 : x2.toInt64 = jZ (x2.toInt.toNat : Int) := by rw [x64, Int.toNat_of_nonneg q2.1]
      have lv : x1.toInt.toNat < 10 ^ 9 := by omega
      have lw : x2.toInt.toNat < 10 ^ 13 := by omega
      generalize x1.toInt.toNat = v at ex1 lv
      generalize x2.toInt.toNat = w at ex2 lw
      have hn9 : nd v ≤ 9 := (nd_le (by omega)).mpr lv
      have ev : (iZ (v : Int)).toInt64 = jZ (v : Int) := iZ_l (by omega) (by omega)
      have em : (2 : Int32) * iZ (nd v : Int) = iZ ((2 * nd v : Nat) : Int) := iZm 2 (nd v)
      obtain ⟨z1, z2⟩ := as_nz (nd v) hn9
      rw [ex2, ex1, s_likely σ v w lv lw, ev, s_many σ v (by omega)]
      simp only [Option.bind_some]
      rw [em, s_ten σ (2 * nd v) (by omega)]
      simp only [Option.bind_some]
      rw [s_heard σ v w lv lw h]
      simp only [Option.bind_some]
      rw [gd_t z1]
      by_cases q : nd w ≤ nd v
      · rw [if_pos q, if_pos q]
        obtain ⟨p1, p2⟩ := prod_rg h v w (nd v)
        have ha := as_eq (nd v) hn9 _ p1 p2
        refine ⟨_, rfl, ?_⟩
        rw [ha]
        by_cases c : lg_cmp (jZ (10 ^ (2 * nd v))) 1000000 < 0
        · rw [if_pos c, if_pos c]
        · rw [if_neg c, if_neg c, gd_t (z2 c)]
      · rw [if_neg q, if_neg q]
        refine ⟨0, rfl, ?_⟩
        by_cases c : lg_cmp (jZ (10 ^ (2 * nd v))) 1000000 < 0
        · rw [if_pos c, Int64.zero_mul]; rfl
        · rw [if_neg c, gd_t (z2 c), Int64.zero_div]; rfl
    · rw [if_pos q2, if_pos q2]
      exact ⟨_, rfl, rfl⟩
  · rw [if_pos q1, if_pos q1]
    exact ⟨_, rfl, rfl⟩
