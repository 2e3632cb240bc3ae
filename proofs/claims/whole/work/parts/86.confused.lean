/-! CONFUSED -/
abbrev heV (σ : St) (v w : Nat) : Int64 := if nd w ≤ nd v then jZ (prodF (fac σ v w) (nd v)) else 0
theorem pow_le18 {N : Nat} (h : N ≤ 9) : (0 : Int) < 100 ^ (9 - N) ∧ (100 : Int) ^ N * 100 ^ (9 - N) = 1000000000000000000 := by
  refine ⟨Int.pow_pos (by omega), ?_⟩
  rw [← Int.pow_add, show N + (9 - N) = 9 by omega]
  decide
theorem lk_pos {σ : St} (h : Rear σ) (v w : Nat) (hn9 : nd v ≤ 9) : (0 < lg_cmp (lkV σ v w) 0) = (0 < lg_cmp (heV σ v w) 0) := by
  rw [cmG, cmG]
  show (0 < (if nd w ≤ nd v then jZ (prodF (fac σ v w) (nd v) * 100 ^ (9 - nd v)) else 0)) = (0 < (if nd w ≤ nd v then jZ (prodF (fac σ v w) (nd v)) else 0))
  by_cases q : nd w ≤ nd v
  · rw [if_pos q, if_pos q]
    obtain ⟨p1, p2⟩ := prod_rg h v w (nd v)
    obtain ⟨c1, c2⟩ := pow_le18 hn9
    generalize prodF (fac σ v w) (nd v) = P at p1 p2 ⊢
    have u1 : P * 100 ^ (9 - nd v) ≤ 1000000000000000000 := by
      rw [← c2]; exact Int.mul_le_mul_of_nonneg_right p2 (by omega)
    have u0 : 0 ≤ P * 100 ^ (9 - nd v) := Int.mul_nonneg p1 (by omega)
    have u2 : P ≤ P * 100 ^ (9 - nd v) := by
      have := Int.mul_le_mul_of_nonneg_left (show (1 : Int) ≤ 100 ^ (9 - nd v) by omega) p1
      rw [Int.mul_one] at this; exact this
    have u3 : P = 0 → P * 100 ^ (9 - nd v) = 0 := fun e => by rw [e, Int.zero_mul]
    generalize P * 100 ^ (9 - nd v) = Q at u1 u0 u2 u3 ⊢
    rw [lJ, lJ, jZ_toInt (by omega) (by omega), jZ_toInt (by omega) (by omega), l_0]
    exact propext (by omega)
  · rw [if_neg q, if_neg q]
theorem s_lk (σ : St) (v w : Nat) (hv : v < 10 ^ 9) (hw : w < 10 ^ 13) : f_X1_likely (iZ (v : Int)) (jZ (w : Int)) σ = some (lkV σ v w, σ) := s_likely σ v w hv hw
theorem s_he (σ : St) (v w : Nat) (hv : v < 10 ^ 9) (hw : w < 10 ^ 13) (h : Rear σ) : f_X10_heardAs (iZ (v : Int)) (jZ (w : Int)) σ = some (heV σ v w, σ) := s_heard σ v w hv hw h
