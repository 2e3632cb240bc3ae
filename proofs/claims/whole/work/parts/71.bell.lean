/-! BELL, ECHO -/
theorem s_ten_go (σ : St) (k : Nat) (hk : k ≤ 18) : ∀ m n j : Nat, j + m = k → m < n → f_X10_ten_4 n (iZ (k : Int)) (jZ (10 ^ j)) (iZ (j : Int)) σ = some (jZ (10 ^ k), σ) := by
  intro m
  induction m with
  | zero =>
    intro n j e hn
    cases n with
    | zero => omega
    | succ n =>
      have : j = k := by omega
      subst this
      show (if iZ (j : Int) ≤ iZ (j : Int) then _ else _) = _
      rw [if_pos (by rw [leI]; exact Int.le_refl _)]
  | succ m ih =>
    intro n j e hn
    cases n with
    | zero => omega
    | succ n =>
      show (if iZ (k : Int) ≤ iZ (j : Int) then _ else f_X10_ten_15 (f_X10_ten_4 n) (iZ (k : Int)) (jZ (10 ^ j) * 10) (iZ (j : Int)) σ) = _
      rw [if_neg (by rw [leI, iZt (by omega), iZt (by omega)]; omega)]
      unfold f_X10_ten_15
      have h10 : (10 : Int64) = jZ 10 := rfl
      rw [iZs, h10, jZ_mul]
      exact ih n (j + 1) (by omega) (by omega)
theorem s_ten (σ : St) (k : Nat) (hk : k ≤ 18) : f_X10_ten (iZ (k : Int)) σ = some (jZ (10 ^ k), σ) :=
  s_ten_go σ k hk k FU 0 (by omega) (by unfold FU; omega)
abbrev sg (σ : St) (o : Nat) : Nat → Int := fun j => (seenZ (gI σ o 4) (gI σ (o + 1) j) j).toInt
theorem s_vseen_go (o : Nat) (σ : St) (R : Nat) (hR : R ≤ 12) (hr : (gI σ o 0).toInt = R) : ∀ m n k : Nat, k + m = R → m < n → f_X7_valueSeen_4 o n (jZ (vsum (sg σ o) k)) (iZ (k : Int)) σ = some (jZ (vsum (sg σ o) R), σ) := by
  intro m
  induction m with
  | zero =>
    intro n k e hn
    cases n with
    | zero => omega
    | succ n =>
      have : k = R := by omega
      subst this
      show (if gI σ o 0 ≤ iZ (k : Int) then _ else _) = _
      rw [if_pos (by rw [leI, hr, iZt (by omega)]; exact Int.le_refl _)]
  | succ m ih =>
    intro n k e hn
    cases n with
    | zero => omega
    | succ n =>
      show (if gI σ o 0 ≤ iZ (k : Int) then _ else (f_X7_seen o (iZ (k : Int)) σ).bind fun p1 => gd (inb (iZ (k : Int)) 13) (f_X7_valueSeen_27 o (f_X7_valueSeen_4 o n) (jZ (vsum (sg σ o) k) + ((p1.1.toInt64) * (tens (iZ (k : Int)).toNatClampNeg))) (iZ (k : Int)) p1.2)) = _
      rw [if_neg (by rw [leI, hr, iZt (by omega)]; omega), s_seen7 o k (by omega)]
      simp only [Option.bind_some]
      rw [gd_t (iZb (by omega) (by omega))]
      unfold f_X7_valueSeen_27
      rw [iZs, iZc (by omega), tens_jZ (by omega), x64, jZ_mul, jZ_add]
      exact ih n (k + 1) (by omega) (by omega)
theorem s_vseen (o : Nat) (σ : St) (R : Nat) (hR : R ≤ 12) (hr : (gI σ o 0).toInt = R) : f_X7_valueSeen o σ = some (jZ (vsum (sg σ o) R), σ) :=
  s_vseen_go o σ R hR hr R FU 0 (by omega) (by unfold FU; omega)
abbrev fg (σ : St) : Nat → Int := fun j => if bitI (gI σ 38 20) j then 0 else (seenZ (gI σ 38 19) (gI σ 46 j) j).toInt
theorem s_seenN_go (σ : St) (R : Nat) (hR : R ≤ 12) (hr : (gI σ 38 1).toInt = R) : ∀ m n k : Nat, k + m = R → m < n → f_X10_seenNumber_4 n (jZ (vsum (fg σ) k)) (iZ (k : Int)) σ = some (jZ (vsum (fg σ) R), σ) := by
  intro m
  induction m with
  | zero =>
    intro n k e hn
    cases n with
    | zero => omega
    | succ n =>
      have : k = R := by omega
      subst this
      show (if gI σ 38 1 ≤ iZ (k : Int) then _ else _) = _
      rw [if_pos (by rw [leI, hr, iZt (by omega)]; exact Int.le_refl _)]
  | succ m ih =>
    intro n k e hn
    cases n with
    | zero => omega
    | succ n =>
      rw [f_X10_seenNumber_4]
      rw [if_neg (by rw [leI, hr, iZt (by omega)]; omega), s_has _ k (by omega)]
      simp only [Option.bind_some, bZ_0]
      have hs := ih n (k + 1) (by omega) (by omega)
      have hv : vsum (fg σ) (k + 1) = vsum (fg σ) k + fg σ k * 10 ^ k := rfl
      rw [hv] at hs
      unfold f_X10_seenNumber_39 f_X10_seenNumber_41
      rw [s_seen10 k (by omega)]
      simp only [Option.bind_some]
      rw [s_ten σ k (by omega)]
      simp only [Option.bind_some]
      rw [iZs, x64, jZ_mul, jZ_add]
      by_cases q : bitI (gI σ 38 20) k
      · rw [if_neg (not_not_intro q)]
        have h0 : (0 : Int64) = jZ 0 := rfl
        rw [h0, jZ_add]
        have e2 : fg σ k = 0 := if_pos q
        rw [e2] at hs
        simpa using hs
      · rw [if_pos q]
        have e2 : fg σ k = (seenZ (gI σ 38 19) (gI σ 46 k) k).toInt := if_neg q
        rw [e2] at hs
        exact hs
theorem s_seenN (σ : St) (R : Nat) (hR : R ≤ 12) (hr : (gI σ 38 1).toInt = R) : f_X10_seenNumber σ = some (jZ (vsum (fg σ) R), σ) :=
  s_seenN_go σ R hR hr R FU 0 (by omega) (by unfold FU; omega)
theorem bit_zero (k : Nat) : ¬ bitI 0 k := by
  unfold bitI
  show ¬ (0#32).getLsbD k = true
  simp
theorem m_seen {σ : St} (h : Rrop σ) (d : Rdig σ) (g : Rgoat σ) (f : gI σ 1 5 = 0) : ∃ v, f_X7_valueSeen 1 σ = some (v, σ) ∧ f_X10_seenNumber σ = some (v, σ) := by
  obtain ⟨h1, h2, h3⟩ := h
  obtain ⟨g1, g2, g3, g4, g5, g6⟩ := g
  have e : (gI σ 1 0).toInt = ((gI σ 1 0).toInt.toNat : Int) := by omega
  refine ⟨_, s_vseen 1 σ (gI σ 1 0).toInt.toNat (by omega) e, ?_⟩
  rw [s_seenN σ (gI σ 1 0).toInt.toNat (by omega) (by rw [h1]; exact e)]
  rw [vsum_congr _ (fun j hj => ?_)]
  show (if bitI (gI σ 38 20) j then 0 else (seenZ (gI σ 38 19) (gI σ 46 j) j).toInt) = (seenZ (gI σ 1 4) (gI σ 2 j) j).toInt
  rw [g4, f, if_neg (bit_zero j), g3, (d.1 j (by omega)).1]
theorem s_isBell (v : Int32) (σ : St) : f_X9_isBell v σ = some (bZ (2 ≤ v.toInt ∧ v.toInt ≤ 99), σ) := by
  unfold f_X9_isBell f_X9_isBell_15 f_X9_isBell_16 bZ
  simp only [lI, t_0, t_1, t_2, t_3, t_4, t_5, t_6, t_7, t_8, t_9, t_10, t_11, t_12, t_13, t_18, t_19, t_20, t_31, t_32, t_40, t_48, t_57, t_99, t_100, t_160, t_255, t_511, t_999, t_1000, t_9999, t_100000, t_999999999, t_2147483647, t_m1, t_m2, l_0, l_1, l_2, l_3, l_5, l_6, l_9, l_10, l_12, l_99, l_100, l_511, l_999, l_1000, l_9999, l_1000000, l_999999999, l_1000000000000, l_1000000000000000000, l_m1, gd_t isbb_0, gd_t isbb_1]
  by_cases h1 : v.toInt < 2
  · rw [if_pos h1, if_neg (by omega)]
  · rw [if_neg h1]
    by_cases h2 : 99 < v.toInt
    · rw [if_pos h2, if_neg (by omega)]
    · rw [if_neg h2, if_pos (by omega)]
theorem s_isDigit (v : Int32) (σ : St) : f_X9_isDigit v σ = some (bZ (0 ≤ v.toInt ∧ v.toInt ≤ 9), σ) := by
  unfold f_X9_isDigit f_X9_isDigit_14 f_X9_isDigit_15 bZ
  simp only [lI, t_0, t_1, t_2, t_3, t_4, t_5, t_6, t_7, t_8, t_9, t_10, t_11, t_12, t_13, t_18, t_19, t_20, t_31, t_32, t_40, t_48, t_57, t_99, t_100, t_160, t_255, t_511, t_999, t_1000, t_9999, t_100000, t_999999999, t_2147483647, t_m1, t_m2, l_0, l_1, l_2, l_3, l_5, l_6, l_9, l_10, l_12, l_99, l_100, l_511, l_999, l_1000, l_9999, l_1000000, l_999999999, l_1000000000000, l_1000000000000000000, l_m1, gd_t isbb_0, gd_t isbb_1]
  by_cases h1 : v.toInt < 0
  · rw [if_pos h1, if_neg (by omega)]
  · rw [if_neg h1]
    by_cases h2 : 9 < v.toInt
    · rw [if_pos h2, if_neg (by omega)]
    · rw [if_neg h2, if_pos (by omega)]
theorem s_isRest9 (v w : Int32) (σ : St) : f_X9_isRest v w σ = some (bZ ((1 ≤ v.toInt ∧ v.toInt ≤ 99) ∧ 0 ≤ w.toInt ∧ w.toInt < v.toInt), σ) := by
  unfold f_X9_isRest f_X9_isRest_24 f_X9_isRest_25 bZ
  simp only [lI, leI, t_0, t_1, t_2, t_3, t_4, t_5, t_6, t_7, t_8, t_9, t_10, t_11, t_12, t_13, t_18, t_19, t_20, t_31, t_32, t_40, t_48, t_57, t_99, t_100, t_160, t_255, t_511, t_999, t_1000, t_9999, t_100000, t_999999999, t_2147483647, t_m1, t_m2, l_0, l_1, l_2, l_3, l_5, l_6, l_9, l_10, l_12, l_99, l_100, l_511, l_999, l_1000, l_9999, l_1000000, l_999999999, l_1000000000000, l_1000000000000000000, l_m1, gd_t isbb_0, gd_t isbb_1]
  by_cases h1 : v.toInt < 1
  · rw [if_pos h1, if_neg (by omega)]
  · rw [if_neg h1]
    by_cases h2 : 99 < v.toInt
    · rw [if_pos h2, if_neg (by omega)]
    · rw [if_neg h2]
      by_cases h3 : w.toInt < 0
      · rw [if_pos h3, if_neg (by omega)]
      · rw [if_neg h3]
        by_cases h4 : v.toInt ≤ w.toInt
        · rw [if_pos h4, if_neg (by omega)]
        · rw [if_neg h4, if_pos (by omega)]
theorem s_isRest10 (v w : Int32) (σ : St) : f_X10_isRest v w σ = some (bZ ((1 ≤ v.toInt ∧ v.toInt ≤ 99) ∧ 0 ≤ w.toInt ∧ w.toInt < v.toInt), σ) := by
  unfold f_X10_isRest f_X10_isRest_29 f_X10_isRest_30 bZ
  simp only [s_in, Option.bind_some, bZ_0, t64, t_0, t_1, t_2, t_3, t_4, t_5, t_6, t_7, t_8, t_9, t_10, t_11, t_12, t_13, t_18, t_19, t_20, t_31, t_32, t_40, t_48, t_57, t_99, t_100, t_160, t_255, t_511, t_999, t_1000, t_9999, t_100000, t_999999999, t_2147483647, t_m1, t_m2, l_0, l_1, l_2, l_3, l_5, l_6, l_9, l_10, l_12, l_99, l_100, l_511, l_999, l_1000, l_9999, l_1000000, l_999999999, l_1000000000000, l_1000000000000000000, l_m1, gd_t isbb_0, gd_t isbb_1]
  by_cases h1 : 1 ≤ v.toInt ∧ v.toInt ≤ 99
  · rw [if_neg (not_not_intro h1), tsub (by rw [t_1]; omega) (by rw [t_1]; omega), t_1]
    by_cases h2 : 0 ≤ w.toInt ∧ w.toInt ≤ v.toInt - 1
    · rw [if_neg (not_not_intro h2), if_pos (by omega)]
    · rw [if_pos h2, if_neg (by omega)]
  · rw [if_pos h1, if_neg (fun c => h1 c.1)]
theorem m_bell {σ : St} (b : Int32) (h : Rrop σ) (d : Rdig σ) (g : Rgoat σ) : ∃ a, f_X9_bell b σ = some (a, σ) ∧ f_X10_bell b σ = some (a, σ) := by
  have g4 := g.2.2.2.1
  unfold f_X9_bell f_X10_bell f_X10_bell_38
  simp only [s_in, s_isBell, Option.bind_some, bZ_0, t64, t_0, t_1, t_2, t_3, t_4, t_5, t_6, t_7, t_8, t_9, t_10, t_11, t_12, t_13, t_18, t_19, t_20, t_31, t_32, t_40, t_48, t_57, t_99, t_100, t_160, t_255, t_511, t_999, t_1000, t_9999, t_100000, t_999999999, t_2147483647, t_m1, t_m2, l_0, l_1, l_2, l_3, l_5, l_6, l_9, l_10, l_12, l_99, l_100, l_511, l_999, l_1000, l_9999, l_1000000, l_999999999, l_1000000000000, l_1000000000000000000, l_m1]
  by_cases q : 2 ≤ b.toInt ∧ b.toInt ≤ 99
  · rw [if_neg (not_not_intro q), if_neg (not_not_intro q), g4]
    by_cases f : gI σ 1 5 = 0
    · rw [if_pos f, if_pos f]
      obtain ⟨v, e1, e2⟩ := m_seen h d g f
      rw [e1, e2]
      simp only [Option.bind_some]
      have hz : nzJ b.toInt64 = true := by
        rw [x64]; exact jZ_nz (by omega) (by omega) (by omega)
      rw [gd_t hz]
      exact ⟨_, rfl, rfl⟩
    · rw [if_neg f, if_neg f]
      exact ⟨_, rfl, rfl⟩
  · rw [if_pos q, if_pos q]
    exact ⟨_, rfl, rfl⟩
