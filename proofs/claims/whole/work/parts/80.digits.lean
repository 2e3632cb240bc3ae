/-! DIGITS OF A NUMBER -/
def ndF : Nat → Nat → Nat
  | 0, _ => 0
  | m + 1, v => if v = 0 then 0 else ndF m (v / 10) + 1
theorem ndF_le : ∀ m v j : Nat, v < 10 ^ m → (ndF m v ≤ j ↔ v < 10 ^ j)
  | 0, v, j, h => by
    have h0 : v = 0 := by rw [Nat.pow_zero] at h; omega
    subst h0
    exact ⟨fun _ => Nat.pow_pos (by omega), fun _ => Nat.zero_le _⟩
  | m + 1, v, j, h => by
    show (if v = 0 then 0 else ndF m (v / 10) + 1) ≤ j ↔ _
    by_cases q : v = 0
    · rw [if_pos q, q]
      exact ⟨fun _ => Nat.pow_pos (by omega), fun _ => Nat.zero_le _⟩
    · rw [if_neg q]
      cases j with
      | zero =>
        rw [Nat.pow_zero]
        exact ⟨fun c => by omega, fun c => by omega⟩
      | succ j =>
        have h1 : v / 10 < 10 ^ m := by
          rw [Nat.div_lt_iff_lt_mul (by omega)]
          rw [Nat.pow_succ] at h; exact h
        have := ndF_le m (v / 10) j h1
        rw [Nat.div_lt_iff_lt_mul (by omega)] at this
        rw [Nat.pow_succ]
        constructor
        · intro c; exact this.mp (by omega)
        · intro c
          have := this.mpr c
          omega
abbrev nd (v : Nat) : Nat := ndF 18 v
theorem p10 (k : Nat) (h : k ≤ 18) : 10 ^ k ≤ 1000000000000000000 := by
  have : 10 ^ k ≤ 10 ^ 18 := Nat.pow_le_pow_right (by omega) h
  have e : 10 ^ 18 = 1000000000000000000 := by decide
  omega
theorem jpow (k : Nat) : (10 : Int) ^ k = ((10 ^ k : Nat) : Int) := by simp
theorem s_many_go (σ : St) : ∀ m n v : Nat, ∀ c : Int32, m ≤ 18 → v < 10 ^ m → m < n → f_X10_many_5 n c (jZ (v : Int)) σ = some (c + iZ (ndF m v : Int), σ) := by
  intro m
  induction m with
  | zero =>
    intro n v c _ h hn
    have h0 : v = 0 := by rw [Nat.pow_zero] at h; omega
    subst h0
    cases n with
    | zero => omega
    | succ n =>
      have hz : lg_cmp (jZ ((0 : Nat) : Int)) 0 ≤ 0 := by rw [cmLE, leJ]; exact Int.le_refl _
      rw [f_X10_many_5, if_pos hz]
      show _ = some (c + 0, σ)
      rw [Int32.add_zero]
  | succ m ih =>
    intro n v c hm h hn
    have hv := p10 (m + 1) hm
    cases n with
    | zero => omega
    | succ n =>
      rw [f_X10_many_5]
      have hc : (lg_cmp (jZ (v : Int)) 0 ≤ 0) = (v = 0) := by
        rw [cmLE, leJ, jZ_toInt (by omega) (by omega), l_0]
        exact propext (by omega)
      simp only [hc]
      show _ = some (c + iZ ((if v = 0 then 0 else ndF m (v / 10) + 1 : Nat) : Int), σ)
      by_cases q : v = 0
      · rw [if_pos q, if_pos q]
        show _ = some (c + 0, σ)
        rw [Int32.add_zero]
      · rw [if_neg q, if_neg q]
        unfold f_X10_many_23
        have h10 : (10 : Int64) = jZ 10 := rfl
        have h1 : v / 10 < 10 ^ m := by
          rw [Nat.div_lt_iff_lt_mul (by omega)]
          rw [Nat.pow_succ] at h; exact h
        have ed : (v : Int) / 10 = ((v / 10 : Nat) : Int) := by omega
        rw [h10, jZ_div (by omega) (by omega) (by omega) (by omega), ed, ih n (v / 10) (c + 1) (by omega) h1 (by omega), ← iZs, Int32.add_assoc, Int32.add_comm 1]
theorem s_many (σ : St) (v : Nat) (h : v < 10 ^ 18) : f_X10_many (jZ (v : Int)) σ = some (iZ (nd v : Int), σ) := by
  have := s_many_go σ 18 FU v 0 (by omega) h (by unfold FU; omega)
  rw [Int32.zero_add] at this
  exact this
theorem s_top_go (σ : St) (v : Nat) (hv : v < 10 ^ 13) : ∀ m n j : Nat, j + m = 13 → m < n → j ≤ nd v → f_X9_topPlace_4 n (jZ (v : Int)) (iZ ((j : Int) - 1)) (iZ (j : Int)) σ = some (iZ ((nd v : Int) - 1), σ) := by
  have e13 : 10 ^ 13 = 10000000000000 := by decide
  have e18 : 10 ^ 18 = 1000000000000000000 := by decide
  have hl : ∀ j, nd v ≤ j ↔ v < 10 ^ j := fun j => ndF_le 18 v j (by omega)
  intro m
  induction m with
  | zero =>
    intro n j e hn hj
    cases n with
    | zero => omega
    | succ n =>
      have h13 := (hl 13).mpr hv
      rw [f_X9_topPlace_4, if_pos (by rw [leI, iZt (by omega), t_13]; omega)]
      have : nd v = j := by omega
      rw [this]; rfl
  | succ m ih =>
    intro n j e hn hj
    cases n with
    | zero => omega
    | succ n =>
      have hp := p10 j (by omega)
      rw [f_X9_topPlace_4, if_neg (by rw [leI, iZt (by omega), t_13]; omega), gd_t (iZb (by omega) (by omega)), iZc (by omega), tens_jZ (by omega)]
      have hc : (lg_cmp (jZ (v : Int)) (jZ (10 ^ j)) < 0) = (v < 10 ^ j) := by
        rw [cmL, jpow]
        generalize 10 ^ j = P at hp ⊢
        rw [jZ_lt (by omega) (by omega) (by omega) (by omega)]
        exact propext (by omega)
      simp only [hc]
      by_cases q : v < 10 ^ j
      · rw [if_pos q]
        have := (hl j).mpr q
        have : nd v = j := by omega
        rw [this]; rfl
      · rw [if_neg q]
        have h1 : ¬ nd v ≤ j := fun c => q ((hl j).mp c)
        have := ih n (j + 1) (by omega) (by omega) (by omega)
        rw [show ((j + 1 : Nat) : Int) - 1 = (j : Int) by omega] at this
        rw [iZs]; exact this
theorem s_top (σ : St) (v : Nat) (hv : v < 10 ^ 13) : f_X9_topPlace (jZ (v : Int)) σ = some (iZ ((nd v : Int) - 1), σ) :=
  s_top_go σ v hv 13 FU 0 (by omega) (by unfold FU; omega) (by omega)
theorem s_digitOf9 (σ : St) (v k : Nat) (hv : v < 10 ^ 18) (hk : k < 13) : f_X9_digitOf (jZ (v : Int)) (iZ (k : Int)) σ = some (iZ ((v / 10 ^ k % 10 : Nat) : Int), σ) := by
  have e : 10 ^ 18 = 1000000000000000000 := by decide
  have hp := p10 k (by omega)
  have hp0 : 0 < 10 ^ k := Nat.pow_pos (by omega)
  unfold f_X9_digitOf f_X9_digitOf_28
  rw [if_neg (by rw [lI, iZt (by omega), t_0]; omega), if_pos (by rw [lI, iZt (by omega), t_13]; omega), gd_t (iZb hk (by omega)), iZc (by omega), tens_jZ (by omega), jpow]
  have h10 : (10 : Int64) = jZ 10 := rfl
  generalize 10 ^ k = P at hp hp0 ⊢
  have hq : v / P ≤ v := Nat.div_le_self _ _
  have ed : (v : Int) / (P : Int) = ((v / P : Nat) : Int) := (Int.natCast_ediv _ _).symm
  rw [gd_t (jZ_nz (by omega) (by omega) (by omega)), jZ_div (by omega) (by omega) (by omega) (by omega), ed]
  generalize v / P = Q at hq ⊢
  have em : (Q : Int) % 10 = ((Q % 10 : Nat) : Int) := by omega
  rw [h10, jZ_rm (by omega) (by omega) (by omega) (by omega), em, jZ_i]
theorem s_digitOf10_go (σ : St) (k : Nat) (hk : k < 2147483648) : ∀ m n j v : Nat, j + m = k → m < n → v < 10 ^ 18 → f_X10_digitOf_5 n (iZ (k : Int)) (jZ (v : Int)) (iZ (j : Int)) σ = some (iZ ((v / 10 ^ m % 10 : Nat) : Int), σ) := by
  have e18 : 10 ^ 18 = 1000000000000000000 := by decide
  have h10 : (10 : Int64) = jZ 10 := rfl
  intro m
  induction m with
  | zero =>
    intro n j v e hn hv
    cases n with
    | zero => omega
    | succ n =>
      rw [f_X10_digitOf_5, if_pos (by rw [leI, iZt (by omega), iZt (by omega)]; omega)]
      have em : (v : Int) % 10 = ((v % 10 : Nat) : Int) := by omega
      rw [h10, jZ_rm (by omega) (by omega) (by omega) (by omega), em, jZ_i, Nat.pow_zero, Nat.div_one]
  | succ m ih =>
    intro n j v e hn hv
    cases n with
    | zero => omega
    | succ n =>
      rw [f_X10_digitOf_5, if_neg (by rw [leI, iZt (by omega), iZt (by omega)]; omega)]
      unfold f_X10_digitOf_17
      have ed : (v : Int) / 10 = ((v / 10 : Nat) : Int) := by omega
      rw [h10, jZ_div (by omega) (by omega) (by omega) (by omega), ed, iZs, ih n (j + 1) (v / 10) (by omega) (by omega) (by omega), Nat.div_div_eq_div_mul, Nat.pow_succ, Nat.mul_comm 10]
theorem s_digitOf10 (σ : St) (v k : Nat) (hv : v < 10 ^ 18) (hk : k < 1000) : f_X10_digitOf (jZ (v : Int)) (iZ (k : Int)) σ = some (iZ ((v / 10 ^ k % 10 : Nat) : Int), σ) :=
  s_digitOf10_go σ k (by omega) k FU 0 v (by omega) (by unfold FU; omega) hv
