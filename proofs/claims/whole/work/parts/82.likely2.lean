def prodL (F : Nat → Int) (N : Nat) : Nat → Int
  | 0 => 1
  | k + 1 => prodL F N k * (if k < N then F k else 100)
theorem prodL_lo {F : Nat → Int} {N : Nat} : ∀ k : Nat, k ≤ N → prodL F N k = prodF F k
  | 0, _ => rfl
  | k + 1, h => by
    show prodL F N k * (if k < N then F k else 100) = prodF F k * F k
    rw [prodL_lo k (by omega), if_pos (by omega)]
theorem prodL_hi {F : Nat → Int} {N : Nat} : ∀ j : Nat, prodL F N (N + j) = prodF F N * 100 ^ j
  | 0 => by rw [Nat.add_zero, prodL_lo N (Nat.le_refl _), Int.pow_zero, Int.mul_one]
  | j + 1 => by
    show prodL F N (N + j) * (if N + j < N then F (N + j) else 100) = prodF F N * 100 ^ (j + 1)
    rw [prodL_hi j, if_neg (by omega), Int.pow_succ, Int.mul_assoc]
theorem s_likely_go (σ : St) (v w : Nat) (hv : v < 10 ^ 9) (hw : w < 10 ^ 13) : ∀ m n k : Nat, k + m = 9 → m < n → f_X1_likely_24 n (iZ (v : Int)) (jZ (w : Int)) (iZ ((nd v : Int) - 1)) (jZ (prodL (fac σ v w) (nd v) k)) (iZ (k : Int)) σ = some (jZ (prodL (fac σ v w) (nd v) 9), σ) := by
  have e9 : 10 ^ 9 = 1000000000 := by decide
  have e13 : 10 ^ 13 = 10000000000000 := by decide
  have e18 : 10 ^ 18 = 1000000000000000000 := by decide
  have hn9 : nd v ≤ 9 := (nd_le (by omega)).mpr hv
  have ev : (iZ (v : Int)).toInt64 = jZ (v : Int) := iZ_l (by omega) (by omega)
  intro m
  induction m with
  | zero =>
    intro n k e hn
    cases n with
    | zero => omega
    | succ n =>
      have : k = 9 := by omega
      subst this
      rw [f_X1_likely_24, if_pos (by rw [leI, iZt (by omega), t_9]; omega)]
  | succ m ih =>
    intro n k e hn
    cases n with
    | zero => omega
    | succ n =>
      rw [f_X1_likely_24, if_neg (by rw [leI, iZt (by omega), t_9]; omega), ev, s_digitOf9 σ v k (by omega) (by omega)]
      simp only [Option.bind_some]
      rw [s_digitOf9 σ w k (by omega) (by omega)]
      simp only [Option.bind_some]
      unfold f_X1_likely_69 f_X1_likely_72
      have hs := ih n (k + 1) (by omega) (by omega)
      have hp : prodL (fac σ v w) (nd v) (k + 1) = prodL (fac σ v w) (nd v) k * (if k < nd v then fac σ v w k else 100) := rfl
      rw [hp] at hs
      have la : v / 10 ^ k % 10 < 10 := Nat.mod_lt _ (by omega)
      have lb : w / 10 ^ k % 10 < 10 := Nat.mod_lt _ (by omega)
      have hf : fac σ v w k = (gI σ 16 (10 * (v / 10 ^ k % 10) + w / 10 ^ k % 10)).toInt := rfl
      rw [hf] at hs
      have h100 : (100 : Int64) = jZ 100 := rfl
      generalize v / 10 ^ k % 10 = a at la hs ⊢
      generalize w / 10 ^ k % 10 = b at lb hs ⊢
      rw [ten_a, iZa, gd_t (iZb (show 10 * a + b < 100 by omega) (by omega)), iZc (show 10 * a + b < 2147483648 by omega), iZs, x64, h100, jZ_mul, jZ_mul]
      by_cases q : k < nd v
      · rw [if_pos (by rw [leI, iZt (by omega), iZ_toInt (by omega) (by omega)]; omega)]
        rw [if_pos q] at hs
        exact hs
      · rw [if_neg (by rw [leI, iZt (by omega), iZ_toInt (by omega) (by omega)]; omega)]
        rw [if_neg q] at hs
        exact hs
theorem s_likely (σ : St) (v w : Nat) (hv : v < 10 ^ 9) (hw : w < 10 ^ 13) : f_X1_likely (iZ (v : Int)) (jZ (w : Int)) σ = some (if nd w ≤ nd v then jZ (prodF (fac σ v w) (nd v) * 100 ^ (9 - nd v)) else 0, σ) := by
  have e9 : 10 ^ 9 = 1000000000 := by decide
  have e13 : 10 ^ 13 = 10000000000000 := by decide
  have e18 : 10 ^ 18 = 1000000000000000000 := by decide
  have hn9 : nd v ≤ 9 := (nd_le (by omega)).mpr hv
  have hn13 : nd w ≤ 13 := (nd_le (by omega)).mpr hw
  have ev : (iZ (v : Int)).toInt64 = jZ (v : Int) := iZ_l (by omega) (by omega)
  unfold f_X1_likely
  rw [ev, s_top σ v (by omega)]
  simp only [Option.bind_some]
  rw [s_top σ w hw]
  simp only [Option.bind_some, leI]
  rw [iZ_toInt (by omega) (by omega), iZ_toInt (by omega) (by omega)]
  by_cases q : nd w ≤ nd v
  · rw [if_pos (by omega), if_pos q]
    have h9 := prodL_hi (F := fac σ v w) (N := nd v) (9 - nd v)
    rw [show nd v + (9 - nd v) = 9 by omega] at h9
    rw [← h9]
    exact s_likely_go σ v w hv hw 9 FU 0 (by omega) (by unfold FU; omega)
  · rw [if_neg (by omega), if_neg q]
