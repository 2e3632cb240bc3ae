/-! WHAT IS SET, AND THE NUMBER -/
theorem x64 (a : Int32) : a.toInt64 = jZ a.toInt := by
  have := iZ_l (i_lo a) (i_hi a)
  rw [iZ_self] at this; exact this
theorem iZs (k : Nat) : iZ (k : Int) + 1 = iZ ((k + 1 : Nat) : Int) := by
  have h : (1 : Int32) = iZ 1 := rfl
  rw [h, iZ_add, Int.natCast_add]; rfl
theorem iZt {k : Nat} (h : k < 2147483648) : (iZ (k : Int)).toInt = k := iZ_toInt (by omega) (by omega)
theorem iZc {k : Nat} (h : k < 2147483648) : (iZ (k : Int)).toNatClampNeg = k := by
  rw [iZ_cl (by omega) (by omega)]; rfl
theorem iZb {k n : Nat} (h : k < n) (h2 : n < 2147483648) : inb (iZ (k : Int)) n = true := inb_i (by rw [iZt (by omega)]; omega) (by rw [iZt (by omega)]; omega)
theorem iZof {x : Int32} (h : 0 ≤ x.toInt) : x = iZ (x.toInt.toNat : Int) := by
  rw [Int.toNat_of_nonneg h, iZ_self]
abbrev dg (σ : St) (o : Nat) : Nat → Int := fun j => (gI σ o j).toInt
theorem s_value_go (o : Nat) (σ : St) (R : Nat) (hR : R ≤ 12) (hr : (gI σ o 0).toInt = R) : ∀ m n k : Nat, k + m = R → m < n → f_X7_value_4 o n (jZ (vsum (dg σ (o + 1)) k)) (iZ (k : Int)) σ = some (jZ (vsum (dg σ (o + 1)) R), σ) := by
  intro m
  induction m with
  | zero =>
    intro n k e hn
    cases n with
    | zero => omega
    | succ n =>
      have : k = R := by omega
      subst this
      show (if gI σ o 0 ≤ iZ (k : Int) then _ else _) = _
      rw [if_pos (by rw [leI, hr, iZt (by omega)]; exact Int.le_refl _)]
  | succ m ih =>
    intro n k e hn
    cases n with
    | zero => omega
    | succ n =>
      show (if gI σ o 0 ≤ iZ (k : Int) then _ else gd (inb (iZ (k : Int)) 12) (gd (inb (iZ (k : Int)) 13) (f_X7_value_28 o (f_X7_value_4 o n) (jZ (vsum (dg σ (o + 1)) k) + (((gI σ (o + 1) (iZ (k : Int)).toNatClampNeg).toInt64) * (tens (iZ (k : Int)).toNatClampNeg))) (iZ (k : Int)) σ))) = _
      rw [if_neg (by rw [leI, hr, iZt (by omega)]; omega), gd_t (iZb (by omega) (by omega)), gd_t (iZb (by omega) (by omega))]
      unfold f_X7_value_28
      rw [iZs, iZc (by omega), tens_jZ (by omega), x64, jZ_mul, jZ_add]
      exact ih n (k + 1) (by omega) (by omega)
theorem s_value (o : Nat) (σ : St) (R : Nat) (hR : R ≤ 12) (hr : (gI σ o 0).toInt = R) : f_X7_value o σ = some (jZ (vsum (dg σ (o + 1)) R), σ) :=
  s_value_go o σ R hR hr R FU 0 (by omega) (by unfold FU; omega)
theorem s_number_go (σ : St) : ∀ k n : Nat, ∀ acc : Int, k ≤ 12 → k < n → f_X10_number_9 n (jZ acc) (iZ ((k : Int) - 1)) σ = some (jZ (acc * 10 ^ k + vsum (dg σ 46) k), σ) := by
  intro k
  induction k with
  | zero =>
    intro n acc _ hn
    cases n with
    | zero => omega
    | succ n =>
      show (if iZ ((0 : Nat) - 1 : Int) < 0 then _ else _) = _
      rw [if_pos (by rw [lI, iZ_toInt (by omega) (by omega)]; rw [t_0]; omega)]
      simp [vsum]
  | succ k ih =>
    intro n acc hk hn
    cases n with
    | zero => omega
    | succ n =>
      have e : ((k + 1 : Nat) : Int) - 1 = k := by omega
      rw [e]
      show (if iZ (k : Int) < 0 then _ else gd (inb (0 + iZ (k : Int)) 19) (f_X10_number_29 (f_X10_number_9 n) ((10 * jZ acc) + ((gI σ 46 (0 + iZ (k : Int)).toNatClampNeg).toInt64)) (iZ (k : Int)) σ)) = _
      have z : (0 : Int32) + iZ (k : Int) = iZ (k : Int) := Int32.zero_add _
      rw [z, if_neg (by rw [lI, iZt (by omega)]; simp only [t_0]; omega), gd_t (iZb (by omega) (by omega))]
      unfold f_X10_number_29
      have h10 : (10 : Int64) = jZ 10 := rfl
      have hm : (-1 : Int32) = iZ (-1) := rfl
      rw [hm, iZ_add, iZc (by omega), x64, h10, jZ_mul, jZ_add]
      have := ih n (10 * acc + (gI σ 46 k).toInt) (by omega) (by omega)
      have e2 : (k : Int) + -1 = (k : Int) - 1 := rfl
      rw [e2, this]
      congr 3
      show (10 * acc + (gI σ 46 k).toInt) * 10 ^ k + vsum (dg σ 46) k = acc * 10 ^ (k + 1) + (vsum (dg σ 46) k + (gI σ 46 k).toInt * 10 ^ k)
      rw [Int.pow_succ, Int.add_mul, Int.mul_comm 10 acc, Int.mul_assoc acc 10, Int.mul_comm 10 (10 ^ k)]
      omega
theorem s_number (σ : St) (R : Nat) (hR : R ≤ 12) (hr : (gI σ 38 1).toInt = R) : f_X10_number σ = some (jZ (vsum (dg σ 46) R), σ) := by
  unfold f_X10_number
  have e : gI σ 38 1 - 1 = iZ ((R : Int) - 1) := by
    rw [← hr, ← iZ_sub, iZ_self]; rfl
  have e0 : (0 : Int64) = jZ 0 := rfl
  rw [e, e0, s_number_go σ R FU 0 hR (by unfold FU; omega)]
  simp
theorem vsum_congr {f g : Nat → Int} : ∀ n : Nat, (∀ j, j < n → f j = g j) → vsum f n = vsum g n
  | 0, _ => rfl
  | n + 1, h => by
    show vsum f n + f n * 10 ^ n = vsum g n + g n * 10 ^ n
    rw [vsum_congr n (fun j hj => h j (by omega)), h n (by omega)]
theorem m_number {σ : St} (h : Rrop σ) (d : Rdig σ) : ∃ r, f_X9_number σ = some (r, σ) ∧ f_X10_number σ = some (r, σ) := by
  obtain ⟨h1, h2, h3⟩ := h
  have e : (gI σ 1 0).toInt = ((gI σ 1 0).toInt.toNat : Int) := by omega
  refine ⟨_, ?_, s_number σ (gI σ 1 0).toInt.toNat (by omega) (by rw [h1]; exact e)⟩
  unfold f_X9_number
  rw [s_value 1 σ (gI σ 1 0).toInt.toNat (by omega) e]
  simp only [Option.bind_some]
  rw [vsum_congr _ (fun j hj => ?_)]
  show (gI σ 2 j).toInt = (gI σ 46 j).toInt
  rw [(d.1 j (by omega)).1]
theorem s_withBit (w r b : Int32) (σ : St) : f_X9_withBit w r b σ = some (if b = 0 then w &&& ((shlI 1 r) ^^^ (-1)) else w ||| (shlI 1 r), σ) := by
  unfold f_X9_withBit f_X9_withBit_19
  by_cases h : b = 0
  · rw [if_pos h, if_pos h]
  · rw [if_neg h, if_neg h]
theorem m_two {σ : St} (r b : Int32) (h : Rrop σ) (g : Rgoat σ) : ∃ a σ1 σ2, f_X9_two r b σ = some (a, σ1) ∧ f_X10_two r b σ1 = some (a, σ2) ∧ Rgoat σ2 := by
  obtain ⟨h1, h2, h3⟩ := h
  have g0 := g
  obtain ⟨g1, g2, g3, g4, g5, g6⟩ := g
  unfold f_X9_two
  simp only [s_isRope9, Option.bind_some, bZ_0, s_withBit]
  by_cases q : 0 ≤ r.toInt ∧ r.toInt < (gI σ 1 0).toInt
  · rw [if_neg (not_not_intro q)]
    refine ⟨_, _, sI (sI σ 1 4 (if b = 0 then gI σ 1 4 &&& ((shlI 1 r) ^^^ (-1)) else gI σ 1 4 ||| (shlI 1 r))) 38 19 (if b = 0 then gI σ 1 4 &&& ((shlI 1 r) ^^^ (-1)) else gI σ 1 4 ||| (shlI 1 r)), rfl, ?_, ?_⟩
    · unfold f_X10_two f_X10_two_36
      rw [s_isRope10 _ _ (by rw [g_sI_ne (by omega), h1]; omega)]
      simp only [Option.bind_some, bZ_0]
      rw [g_sI_ne (by omega), g_sI_ne (by omega), h1, if_neg (not_not_intro q), g3]
      by_cases hb : b = 0
      · simp only [if_pos hb]
      · simp only [if_neg hb]
    · refine ⟨?_, ?_, ?_, ?_, ?_, ?_⟩
      · rw [g_sI_c (by omega), g_sI_c (by omega), g_sI_c (by omega), g_sI_c (by omega)]; exact g1
      · rw [g_sI_c (by omega), g_sI_c (by omega)]; exact g2
      · rw [g_sI_eq, g_sI_ne (by omega), g_sI_eq]
      · rw [g_sI_ne (by omega), g_sI_ne (by omega), g_sI_ne (by omega), g_sI_ne (by omega)]; exact g4
      · exact g5
      · rw [g_sI_ne (by omega), g_sI_ne (by omega), g_sI_ne (by omega), g_sI_ne (by omega)]; exact g6
  · rw [if_pos q]
    refine ⟨_, _, σ, rfl, ?_, g0⟩
    unfold f_X10_two
    rw [s_isRope10 _ _ (by rw [h1]; omega)]
    simp only [Option.bind_some, bZ_0]
    rw [h1, if_pos q]
theorem m_goats {σ : St} (r b : Int32) (h : Rrop σ) (d : Rdig σ) (g : Rgoat σ) : ∃ a σ1 σ2, f_X9_goats r b σ = some (a, σ1) ∧ f_X10_goats r b σ1 = some (a, σ2) ∧ Rgoat σ2 := by
  obtain ⟨h1, h2, h3⟩ := h
  have g0 := g
  obtain ⟨g1, g2, g3, g4, g5, g6⟩ := g
  unfold f_X9_goats f_X9_goats_31
  simp only [s_isRope9, Option.bind_some, bZ_0, lI, t_0, t_1, t_2, t_3, t_4, t_5, t_6, t_7, t_8, t_9, t_10, t_11, t_12, t_13, t_18, t_19, t_20, t_31, t_32, t_40, t_48, t_57, t_99, t_100, t_160, t_255, t_511, t_999, t_1000, t_9999, t_100000, t_999999999, t_2147483647, t_m1, t_m2, l_0, l_1, l_2, l_3, l_5, l_6, l_9, l_10, l_12, l_99, l_100, l_511, l_999, l_1000, l_9999, l_1000000, l_999999999, l_1000000000000, l_1000000000000000000, l_m1]
  have no : ∀ σ : St, gI σ 38 1 = gI σ 1 0 → 0 ≤ (gI σ 1 0).toInt → f_X10_goats r b σ = (if ¬ (0 ≤ r.toInt ∧ r.toInt < (gI σ 1 0).toInt) then some (0, σ) else if ¬ (0 ≤ b.toInt ∧ b.toInt ≤ 12) then some (0, σ) else gd (inb r 19) (if gI σ 46 r.toNatClampNeg ≤ b then gd (inb r 12) (some (1, sI σ 44 r.toNatClampNeg b)) else some (0, σ))) := by
    intro σ e1 e2
    unfold f_X10_goats f_X10_goats_32
    rw [s_isRope10 _ _ (by rw [e1]; exact e2)]
    simp only [Option.bind_some, bZ_0, s_in, t64, t_0, t_1, t_2, t_3, t_4, t_5, t_6, t_7, t_8, t_9, t_10, t_11, t_12, t_13, t_18, t_19, t_20, t_31, t_32, t_40, t_48, t_57, t_99, t_100, t_160, t_255, t_511, t_999, t_1000, t_9999, t_100000, t_999999999, t_2147483647, t_m1, t_m2, l_0, l_1, l_2, l_3, l_5, l_6, l_9, l_10, l_12, l_99, l_100, l_511, l_999, l_1000, l_9999, l_1000000, l_999999999, l_1000000000000, l_1000000000000000000, l_m1, Int32.zero_add, e1]
  by_cases q : 0 ≤ r.toInt ∧ r.toInt < (gI σ 1 0).toInt
  · rw [if_neg (not_not_intro q)]
    by_cases q2 : b.toInt < 0
    · rw [if_pos q2]
      refine ⟨_, _, σ, rfl, ?_, g0⟩
      rw [no σ h1 (by omega), if_neg (not_not_intro q), if_pos (by omega)]
    · rw [if_neg q2]
      by_cases q3 : 12 < b.toInt
      · rw [if_pos q3]
        refine ⟨_, _, σ, rfl, ?_, g0⟩
        rw [no σ h1 (by omega), if_neg (not_not_intro q), if_pos (by omega)]
      · rw [if_neg q3, gd_t (inb_i (by omega) (by omega))]
        have ej : (r.toNatClampNeg : Nat) = r.toInt.toNat := rfl
        have dd := (d.1 r.toNatClampNeg (by rw [ej]; omega)).1
        by_cases q4 : gI σ 2 r.toNatClampNeg ≤ b
        · rw [if_pos q4, gd_t (inb_i (by omega) (by omega))]
          refine ⟨_, _, sI (sI σ 3 r.toNatClampNeg b) 44 r.toNatClampNeg b, rfl, ?_, ?_⟩
          · rw [no _ (by rw [g_sI_c (by omega), g_sI_c (by omega)]; exact h1) (by rw [g_sI_c (by omega)]; omega), g_sI_c (by omega), if_neg (not_not_intro q), if_neg (by omega), gd_t (inb_i (by omega) (by omega)), g_sI_c (by omega), dd, if_pos q4, gd_t (inb_i (by omega) (by omega))]
          · refine ⟨?_, ?_, ?_, ?_, ?_, ?_⟩
            · funext j
              have := congrFun g1 j
              simp [gI_sI, gI_sJ, gI_sR, gJ_sI, gJ_sJ, gJ_sR, gR_sI, gR_sJ, gR_sR, this]
            · intro j hj
              have := g2 j hj
              rw [g_sI_c (by omega)]
              by_cases e : j = r.toNatClampNeg
              · rw [e, g_sI_eq]; unfold rg; omega
              · rw [g_sI_ne (by omega)]; exact this
            · rw [g_sI_c (by omega), g_sI_c (by omega), g_sI_c (by omega), g_sI_c (by omega)]; exact g3
            · rw [g_sI_c (by omega), g_sI_c (by omega), g_sI_c (by omega), g_sI_c (by omega)]; exact g4
            · exact g5
            · rw [g_sI_c (by omega), g_sI_c (by omega)]; exact g6
        · rw [if_neg q4]
          refine ⟨_, _, σ, rfl, ?_, g0⟩
          rw [no σ h1 (by omega), if_neg (not_not_intro q), if_neg (by omega), gd_t (inb_i (by omega) (by omega)), dd, if_neg q4]
  · rw [if_pos q]
    refine ⟨_, _, σ, rfl, ?_, g0⟩
    rw [no σ h1 (by omega), if_pos q]
theorem ne_01 : ((0 : Int32) = 1) = False := eq_false (by decide)
theorem ne_02 : ((0 : Int32) = 2) = False := eq_false (by decide)
theorem ne_03 : ((0 : Int32) = 3) = False := eq_false (by decide)
theorem ne_10 : ((1 : Int32) = 0) = False := eq_false (by decide)
theorem ne_12 : ((1 : Int32) = 2) = False := eq_false (by decide)
theorem ne_13 : ((1 : Int32) = 3) = False := eq_false (by decide)
theorem ne_20 : ((2 : Int32) = 0) = False := eq_false (by decide)
theorem ne_21 : ((2 : Int32) = 1) = False := eq_false (by decide)
theorem ne_23 : ((2 : Int32) = 3) = False := eq_false (by decide)
theorem ne_30 : ((3 : Int32) = 0) = False := eq_false (by decide)
theorem ne_31 : ((3 : Int32) = 1) = False := eq_false (by decide)
theorem ne_32 : ((3 : Int32) = 2) = False := eq_false (by decide)
theorem m_set {σ : St} (a b : Int32) (h : Rset σ) : ∃ r σ1 σ2, f_X9_set a b σ = some (r, σ1) ∧ f_X10_set a b σ1 = some (r, σ2) ∧ Rset σ2 := by
  have h0 := h
  obtain ⟨h1, h2, h3, h4, h5, h6, h7, h8⟩ := h
  unfold f_X9_set f_X9_set_10 f_X9_set_21 f_X9_set_43 f_X9_set_101 f_X10_set f_X10_set_24 f_X10_set_35 f_X10_set_41 f_X10_set_56 f_X10_set_73 f_X10_set_90 f_X10_set_107
  simp only [s_in, Option.bind_some, bZ_0, t64, lI, leI, t_0, t_1, t_2, t_3, t_4, t_5, t_6, t_7, t_8, t_9, t_10, t_11, t_12, t_13, t_18, t_19, t_20, t_31, t_32, t_40, t_48, t_57, t_99, t_100, t_160, t_255, t_511, t_999, t_1000, t_9999, t_100000, t_999999999, t_2147483647, t_m1, t_m2, l_0, l_1, l_2, l_3, l_5, l_6, l_9, l_10, l_12, l_99, l_100, l_511, l_999, l_1000, l_9999, l_1000000, l_999999999, l_1000000000000, l_1000000000000000000, l_m1]
  by_cases q : 0 ≤ a.toInt ∧ a.toInt ≤ 3
  · have hc : a = 0 ∨ a = 1 ∨ a = 2 ∨ a = 3 := by
      simp only [eI, t_0, t_1, t_2, t_3, t_4, t_5, t_6, t_7, t_8, t_9, t_10, t_11, t_12, t_13, t_18, t_19, t_20, t_31, t_32, t_40, t_48, t_57, t_99, t_100, t_160, t_255, t_511, t_999, t_1000, t_9999, t_100000, t_999999999, t_2147483647, t_m1, t_m2, l_0, l_1, l_2, l_3, l_5, l_6, l_9, l_10, l_12, l_99, l_100, l_511, l_999, l_1000, l_9999, l_1000000, l_999999999, l_1000000000000, l_1000000000000000000, l_m1]; omega
    rcases hc with rfl | rfl | rfl | rfl
    · simp only [ne_01, ne_02, ne_03, if_true, if_false, t_0, t_1, t_2, t_3, t_4, t_5, t_6, t_7, t_8, t_9, t_10, t_11, t_12, t_13, t_18, t_19, t_20, t_31, t_32, t_40, t_48, t_57, t_99, t_100, t_160, t_255, t_511, t_999, t_1000, t_9999, t_100000, t_999999999, t_2147483647, t_m1, t_m2, l_0, l_1, l_2, l_3, l_5, l_6, l_9, l_10, l_12, l_99, l_100, l_511, l_999, l_1000, l_9999, l_1000000, l_999999999, l_1000000000000, l_1000000000000000000, l_m1]
      by_cases q2 : 0 ≤ b.toInt ∧ b.toInt ≤ 1
      · refine ⟨1, sI σ 0 14 b, ?_⟩
        rw [if_neg (by omega), if_neg (by omega), if_neg (by omega), if_pos (by omega), if_neg (by omega), if_neg (not_not_intro q2)]
        refine ⟨_, rfl, rfl, ?_⟩
        · unfold Rset rg at *
          simp [gI_sI, gI_sJ, gI_sR, gJ_sI, gJ_sJ, gJ_sR, gR_sI, gR_sJ, gR_sR, h2, h3, h4]
          omega
      · refine ⟨0, σ, σ, ?_, ?_, h0⟩
        · rw [if_neg (by omega), if_neg (by omega)]
          by_cases q3 : b.toInt < 0
          · rw [if_pos q3]
          · rw [if_neg q3, if_neg (by omega)]
        · rw [if_neg (by omega), if_pos q2]
    · simp only [ne_10, ne_12, ne_13, if_true, if_false, t_0, t_1, t_2, t_3, t_4, t_5, t_6, t_7, t_8, t_9, t_10, t_11, t_12, t_13, t_18, t_19, t_20, t_31, t_32, t_40, t_48, t_57, t_99, t_100, t_160, t_255, t_511, t_999, t_1000, t_9999, t_100000, t_999999999, t_2147483647, t_m1, t_m2, l_0, l_1, l_2, l_3, l_5, l_6, l_9, l_10, l_12, l_99, l_100, l_511, l_999, l_1000, l_9999, l_1000000, l_999999999, l_1000000000000, l_1000000000000000000, l_m1]
      by_cases q2 : 1 ≤ b.toInt ∧ b.toInt ≤ 9
      · refine ⟨1, sI σ 0 15 b, ?_⟩
        rw [if_neg (by omega), if_neg (by omega), if_neg (by omega), if_pos (by omega), if_neg (by omega), if_neg (not_not_intro q2)]
        refine ⟨_, rfl, rfl, ?_⟩
        · unfold Rset rg at *
          simp [gI_sI, gI_sJ, gI_sR, gJ_sI, gJ_sJ, gJ_sR, gR_sI, gR_sJ, gR_sR, h1, h3, h4]
          omega
      · refine ⟨0, σ, σ, ?_, ?_, h0⟩
        · rw [if_neg (by omega), if_neg (by omega)]
          by_cases q3 : b.toInt < 1
          · rw [if_pos q3]
          · rw [if_neg q3, if_neg (by omega)]
        · rw [if_neg (by omega), if_pos q2]
    · simp only [ne_20, ne_21, ne_23, if_true, if_false, t_0, t_1, t_2, t_3, t_4, t_5, t_6, t_7, t_8, t_9, t_10, t_11, t_12, t_13, t_18, t_19, t_20, t_31, t_32, t_40, t_48, t_57, t_99, t_100, t_160, t_255, t_511, t_999, t_1000, t_9999, t_100000, t_999999999, t_2147483647, t_m1, t_m2, l_0, l_1, l_2, l_3, l_5, l_6, l_9, l_10, l_12, l_99, l_100, l_511, l_999, l_1000, l_9999, l_1000000, l_999999999, l_1000000000000, l_1000000000000000000, l_m1]
      by_cases q2 : 0 ≤ b.toInt ∧ b.toInt ≤ 9
      · refine ⟨1, sI σ 0 16 b, ?_⟩
        rw [if_neg (by omega), if_neg (by omega), if_neg (by omega), if_pos (by omega), if_neg (by omega), if_neg (not_not_intro q2)]
        refine ⟨_, rfl, rfl, ?_⟩
        · unfold Rset rg at *
          simp [gI_sI, gI_sJ, gI_sR, gJ_sI, gJ_sJ, gJ_sR, gR_sI, gR_sJ, gR_sR, h1, h2, h4]
          omega
      · refine ⟨0, σ, σ, ?_, ?_, h0⟩
        · rw [if_neg (by omega), if_neg (by omega)]
          by_cases q3 : b.toInt < 0
          · rw [if_pos q3]
          · rw [if_neg q3, if_neg (by omega)]
        · rw [if_neg (by omega), if_pos q2]
    · simp only [ne_30, ne_31, ne_32, if_true, if_false, t_0, t_1, t_2, t_3, t_4, t_5, t_6, t_7, t_8, t_9, t_10, t_11, t_12, t_13, t_18, t_19, t_20, t_31, t_32, t_40, t_48, t_57, t_99, t_100, t_160, t_255, t_511, t_999, t_1000, t_9999, t_100000, t_999999999, t_2147483647, t_m1, t_m2, l_0, l_1, l_2, l_3, l_5, l_6, l_9, l_10, l_12, l_99, l_100, l_511, l_999, l_1000, l_9999, l_1000000, l_999999999, l_1000000000000, l_1000000000000000000, l_m1]
      by_cases q2 : 0 ≤ b.toInt ∧ b.toInt ≤ 9
      · refine ⟨1, sI σ 0 17 b, ?_⟩
        rw [if_neg (by omega), if_neg (by omega), if_neg (by omega), if_pos (by omega), if_neg (by omega), if_neg (not_not_intro q2)]
        refine ⟨_, rfl, rfl, ?_⟩
        · unfold Rset rg at *
          simp [gI_sI, gI_sJ, gI_sR, gJ_sI, gJ_sJ, gJ_sR, gR_sI, gR_sJ, gR_sR, h1, h2, h3]
          omega
      · refine ⟨0, σ, σ, ?_, ?_, h0⟩
        · rw [if_neg (by omega), if_neg (by omega)]
          by_cases q3 : b.toInt < 0
          · rw [if_pos q3]
          · rw [if_neg q3, if_neg (by omega)]
        · rw [if_neg (by omega), if_pos q2]
  · refine ⟨0, σ, σ, ?_, by rw [if_pos q], h0⟩
    have n0 : ¬ a = 0 := by rw [eI, t_0]; omega
    have n1 : ¬ a = 1 := by rw [eI, t_1]; omega
    simp only [if_neg n0, if_neg n1]
    by_cases q3 : a.toInt < 0
    · rw [if_pos q3]
    · rw [if_neg q3, if_pos (by omega)]
