/-! AS -/
theorem fac_rg {σ : St} (h : Rear σ) {a b : Nat} (la : a < 10) (lb : b < 10) : 0 ≤ (gI σ 16 (10 * a + b)).toInt ∧ (gI σ 16 (10 * a + b)).toInt ≤ 100 := by
  obtain ⟨r1, r2, r3, r4, r5⟩ := h.1 a la
  by_cases q : b = a
  · subst q
    rw [show 10 * b + b = 11 * b by omega]
    have hb := esum_bd (f := fun k => (gI σ 45 (10 * b + k)).toInt) 10 (fun k hk => r1 k hk)
    omega
  · rw [r3 b lb q]; exact r1 b lb
theorem prodF_rg {F : Nat → Int} (hF : ∀ k, 0 ≤ F k ∧ F k ≤ 100) : ∀ n : Nat, 0 ≤ prodF F n ∧ prodF F n ≤ 100 ^ n
  | 0 => ⟨by show (0 : Int) ≤ 1; omega, by show (1 : Int) ≤ 100 ^ 0; rw [Int.pow_zero]; omega⟩
  | n + 1 => by
    obtain ⟨h1, h2⟩ := prodF_rg hF n
    obtain ⟨f1, f2⟩ := hF n
    show 0 ≤ prodF F n * F n ∧ prodF F n * F n ≤ 100 ^ (n + 1)
    rw [Int.pow_succ]
    exact ⟨Int.mul_nonneg h1 f1, Int.mul_le_mul h2 f2 f1 (Int.le_trans h1 h2)⟩
theorem prod_rg {σ : St} (h : Rear σ) (v w n : Nat) : 0 ≤ prodF (fac σ v w) n ∧ prodF (fac σ v w) n ≤ 100 ^ n :=
  prodF_rg (fun k => fac_rg h (Nat.mod_lt _ (by omega)) (Nat.mod_lt _ (by omega))) n
theorem as_lo (P : Int) (E A B : Int) (hA : A = E * 1000000000000) (hE : 0 < E) (h1 : 0 ≤ P) (h2 : P * E ≤ 1000000) (hB : 0 < B) (hB2 : B < 1000000) (hEB : 1000000 / B = E) : (jZ (P * A) / 1000000000000).toInt32 = (jZ P * (1000000 / jZ B)).toInt32 := by
  have a1 : (1000000000000 : Int64) = jZ 1000000000000 := rfl
  have a2 : (1000000 : Int64) = jZ 1000000 := rfl
  have h0 : 0 ≤ P * E := Int.mul_nonneg h1 (by omega)
  rw [hA, ← Int.mul_assoc, a1, jZ_div (by omega) (by omega) (by omega) (by omega), Int.mul_ediv_cancel _ (by omega), a2, jZ_div (by omega) (by omega) hB (by omega), hEB, jZ_mul]
theorem as_hi (P : Int) (A D B : Int) (hA : A * D = 1000000000000) (hA0 : 0 < A) (h1 : 0 ≤ P) (h2 : P * A ≤ 1000000000000000000) (hPb : P ≤ 1000000000000000000) (hD : 0 < D) (hD2 : D ≤ 1000000000000) (hB : 0 < B) (hB2 : B ≤ 1000000000000000000) (hBD : B / 1000000 = D) : (jZ (P * A) / 1000000000000).toInt32 = (jZ P / (jZ B / 1000000)).toInt32 := by
  have a1 : (1000000000000 : Int64) = jZ 1000000000000 := rfl
  have a2 : (1000000 : Int64) = jZ 1000000 := rfl
  have h0 : 0 ≤ P * A := Int.mul_nonneg h1 (by omega)
  rw [a1, jZ_div h0 (by omega) (by omega) (by omega), a2, jZ_div (by omega) (by omega) (by omega) (by omega), hBD, jZ_div h1 (by omega) hD (by omega), ← hA, Int.mul_comm P A, Int.mul_ediv_mul_of_pos _ _ hA0]
theorem as_eq (N : Nat) (hN : N ≤ 9) (P : Int) (h1 : 0 ≤ P) (h2 : P ≤ 100 ^ N) : (jZ (P * 100 ^ (9 - N)) / 1000000000000).toInt32 = if lg_cmp (jZ (10 ^ (2 * N))) 1000000 < 0 then (jZ P * (1000000 / jZ (10 ^ (2 * N)))).toInt32 else (jZ P / (jZ (10 ^ (2 * N)) / 1000000)).toInt32 := by
  have hc : N = 0 ∨ N = 1 ∨ N = 2 ∨ N = 3 ∨ N = 4 ∨ N = 5 ∨ N = 6 ∨ N = 7 ∨ N = 8 ∨ N = 9 := by omega
  rcases hc with rfl | rfl | rfl | rfl | rfl | rfl | rfl | rfl | rfl | rfl
  · rw [if_pos (by rw [cmL]; decide)]
    rw [show (100 : Int) ^ 0 = 1 by decide] at h2
    exact as_lo P 1000000 (100 ^ (9 - 0)) (10 ^ (2 * 0)) (by decide) (by decide) h1 (by omega) (by decide) (by decide) (by decide)
  · rw [if_pos (by rw [cmL]; decide)]
    rw [show (100 : Int) ^ 1 = 100 by decide] at h2
    exact as_lo P 10000 (100 ^ (9 - 1)) (10 ^ (2 * 1)) (by decide) (by decide) h1 (by omega) (by decide) (by decide) (by decide)
  · rw [if_pos (by rw [cmL]; decide)]
    rw [show (100 : Int) ^ 2 = 10000 by decide] at h2
    exact as_lo P 100 (100 ^ (9 - 2)) (10 ^ (2 * 2)) (by decide) (by decide) h1 (by omega) (by decide) (by decide) (by decide)
  · rw [if_neg (by rw [cmL]; decide)]
    rw [show (100 : Int) ^ 3 = 1000000 by decide] at h2
    exact as_hi P (100 ^ (9 - 3)) 1 (10 ^ (2 * 3)) (by decide) (by decide) h1 (by rw [show (100 : Int) ^ (9 - 3) = 1000000000000 by decide]; omega) (by omega) (by decide) (by decide) (by decide) (by decide) (by decide)
  · rw [if_neg (by rw [cmL]; decide)]
    rw [show (100 : Int) ^ 4 = 100000000 by decide] at h2
    exact as_hi P (100 ^ (9 - 4)) 100 (10 ^ (2 * 4)) (by decide) (by decide) h1 (by rw [show (100 : Int) ^ (9 - 4) = 10000000000 by decide]; omega) (by omega) (by decide) (by decide) (by decide) (by decide) (by decide)
  · rw [if_neg (by rw [cmL]; decide)]
    rw [show (100 : Int) ^ 5 = 10000000000 by decide] at h2
    exact as_hi P (100 ^ (9 - 5)) 10000 (10 ^ (2 * 5)) (by decide) (by decide) h1 (by rw [show (100 : Int) ^ (9 - 5) = 100000000 by decide]; omega) (by omega) (by decide) (by decide) (by decide) (by decide) (by decide)
  · rw [if_neg (by rw [cmL]; decide)]
    rw [show (100 : Int) ^ 6 = 1000000000000 by decide] at h2
    exact as_hi P (100 ^ (9 - 6)) 1000000 (10 ^ (2 * 6)) (by decide) (by decide) h1 (by rw [show (100 : Int) ^ (9 - 6) = 1000000 by decide]; omega) (by omega) (by decide) (by decide) (by decide) (by decide) (by decide)
  · rw [if_neg (by rw [cmL]; decide)]
    rw [show (100 : Int) ^ 7 = 100000000000000 by decide] at h2
    exact as_hi P (100 ^ (9 - 7)) 100000000 (10 ^ (2 * 7)) (by decide) (by decide) h1 (by rw [show (100 : Int) ^ (9 - 7) = 10000 by decide]; omega) (by omega) (by decide) (by decide) (by decide) (by decide) (by decide)
  · rw [if_neg (by rw [cmL]; decide)]
    rw [show (100 : Int) ^ 8 = 10000000000000000 by decide] at h2
    exact as_hi P (100 ^ (9 - 8)) 10000000000 (10 ^ (2 * 8)) (by decide) (by decide) h1 (by rw [show (100 : Int) ^ (9 - 8) = 100 by decide]; omega) (by omega) (by decide) (by decide) (by decide) (by decide) (by decide)
  · rw [if_neg (by rw [cmL]; decide)]
    rw [show (100 : Int) ^ 9 = 1000000000000000000 by decide] at h2
    exact as_hi P (100 ^ (9 - 9)) 1000000000000 (10 ^ (2 * 9)) (by decide) (by decide) h1 (by rw [show (100 : Int) ^ (9 - 9) = 1 by decide]; omega) (by omega) (by decide) (by decide) (by decide) (by decide) (by decide)
