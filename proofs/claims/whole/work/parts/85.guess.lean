/-! GUESS -/
theorem pow100 (j : Nat) : (100 : Int) ^ j = 10 ^ (2 * j) := by
  rw [Int.pow_mul]; rfl
abbrev lkV (σ : St) (v w : Nat) : Int64 := if nd w ≤ nd v then jZ (prodF (fac σ v w) (nd v) * 100 ^ (9 - nd v)) else 0
theorem heard_up (σ : St) (v w : Nat) (hn9 : nd v ≤ 9) : (if nd w ≤ nd v then jZ (prodF (fac σ v w) (nd v)) else 0) * jZ (10 ^ (18 - 2 * nd v)) = lkV σ v w := by
  show _ = (if nd w ≤ nd v then jZ (prodF (fac σ v w) (nd v) * 100 ^ (9 - nd v)) else 0)
  by_cases q : nd w ≤ nd v
  · rw [if_pos q, if_pos q, jZ_mul, pow100, show 2 * (9 - nd v) = 18 - 2 * nd v by omega]
  · rw [if_neg q, if_neg q, Int64.zero_mul]
theorem g_guess (σ : St) (h : Rear σ) (r : Rhar σ) (x : Int32) (w : Nat) (ex : x.toInt64 = jZ (w : Int)) (lw : w < 10 ^ 13) (H : Nat) (hH : H ≤ 8) (hh : (gI σ 19 1).toInt = H) : ∀ m n k : Nat, ∀ b : Int32, ∀ best : Int64, k + m = H → m < n → ∃ a, f_X9_guess_16 n x b best (iZ (k : Int)) σ = some (a, σ) ∧ f_X10_guess_21 n x b best (iZ (k : Int)) σ = some (a, σ) := by
  obtain ⟨r1, r2, r4, r5⟩ := r
  have e9 : 10 ^ 9 = 1000000000 := by decide
  have e18 : 10 ^ 18 = 1000000000000000000 := by decide
  intro m
  induction m with
  | zero =>
    intro n k b best e hn
    cases n with
    | zero => omega
    | succ n =>
      rw [f_X9_guess_16, f_X10_guess_21, r1, if_pos (by rw [leI, hh, iZt (by omega)]; omega), if_pos (by rw [leI, hh, iZt (by omega)]; omega)]
      exact ⟨_, rfl, rfl⟩
  | succ m ih =>
    intro n k b best e hn
    cases n with
    | zero => omega
    | succ n =>
      rw [f_X9_guess_16, f_X10_guess_21, r1, if_neg (by rw [leI, hh, iZt (by omega)]; omega), if_neg (by rw [leI, hh, iZt (by omega)]; omega), gd_t (iZb (by omega) (by omega)), gd_t (iZb (by omega) (by omega)), iZc (by omega), r4]
      obtain ⟨v1, v2⟩ := r5 k
      have e20 := iZof v1
      have lv : (gI σ 20 k).toInt.toNat < 10 ^ 9 := by omega
      generalize hv : (gI σ 20 k).toInt.toNat = v at e20 lv
      have hn9 : nd v ≤ 9 := (nd_le (by omega)).mpr lv
      have ev : (iZ (v : Int)).toInt64 = jZ (v : Int) := iZ_l (by omega) (by omega)
      have em : (18 : Int32) - 2 * iZ (nd v : Int) = iZ ((18 - 2 * nd v : Nat) : Int) := by
        have h18 : (18 : Int32) = iZ 18 := rfl
        have h2 : (2 : Int32) = iZ 2 := rfl
        rw [h18, h2, iZ_mul, iZ_sub]; congr 1; omega
      rw [e20, ex, s_likely σ v w lv lw, s_heard σ v w lv lw h]
      simp only [Option.bind_some]
      rw [gd_t (iZb (show k < 8 by omega) (by omega)), r4, e20, ev, s_many σ v (by omega)]
      simp only [Option.bind_some]
      rw [em, s_ten σ (18 - 2 * nd v) (by omega)]
      simp only [Option.bind_some]
      rw [heard_up σ v w hn9]
      unfold f_X9_guess_62 f_X10_guess_66 f_X10_guess_79
      rw [iZs]
      show ∃ a, (if lg_cmp (lkV σ v w) best ≤ 0 then _ else _) = _ ∧ _
      by_cases q : lg_cmp (lkV σ v w) best ≤ 0
      · rw [if_pos q, if_pos q]
        exact ih n (k + 1) b best (by omega) (by omega)
      · rw [if_neg q, if_neg q]
        exact ih n (k + 1) _ _ (by omega) (by omega)
theorem m_guess {σ : St} (x : Int32) (h : Rear σ) (r : Rhar σ) : ∃ a, f_X9_guess x σ = some (a, σ) ∧ f_X10_guess x σ = some (a, σ) := by
  unfold f_X9_guess f_X10_guess
  simp only [s_isNumber, s_in, Option.bind_some, bZ_0, t64, l_0, l_999999999]
  by_cases q : 0 ≤ x.toInt ∧ x.toInt ≤ 999999999
  · rw [if_neg (not_not_intro q), if_neg (not_not_intro q)]
    have e13 : 10 ^ 13 = 10000000000000 := by decide
    have ex : x.toInt64 = jZ (x.toInt.toNat : Int) := by rw [x64, Int.toNat_of_nonneg q.1]
    obtain ⟨r2, r3⟩ := r.2.1
    exact g_guess σ h r x x.toInt.toNat ex (by omega) (gI σ 19 1).toInt.toNat (by omega) (by omega) (gI σ 19 1).toInt.toNat FU 0 (-1) 0 (by omega) (by unfold FU; omega)
  · rw [if_pos q, if_pos q]
    exact ⟨_, rfl, rfl⟩
