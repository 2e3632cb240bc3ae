/-! ECHO -/
theorem esum_bd {f : Nat → Int} : ∀ n : Nat, (∀ k, k < n → 0 ≤ f k ∧ f k ≤ 100) → 0 ≤ esum f n ∧ esum f n ≤ 100 * n
  | 0, _ => ⟨Int.le_refl _, Int.le_refl _⟩
  | n + 1, h => by
    have h1 := esum_bd n (fun k hk => h k (by omega))
    have h2 := h n (by omega)
    have e : esum f (n + 1) = esum f n + f n := rfl
    rw [e]; omega
theorem esum_congr {f g : Nat → Int} : ∀ n : Nat, (∀ j, j < n → f j = g j) → esum f n = esum g n
  | 0, _ => rfl
  | n + 1, h => by
    show esum f n + f n = esum g n + g n
    rw [esum_congr n (fun j hj => h j (by omega)), h n (by omega)]
theorem esum_upd {f g : Nat → Int} {b : Nat} {y : Int} (hb : g b = y) (hk : ∀ k, k ≠ b → g k = f k) : ∀ n : Nat, b < n → esum g n = esum f n - f b + y
  | 0, h => absurd h (Nat.not_lt_zero _)
  | n + 1, h => by
    show esum g n + g n = esum f n + f n - f b + y
    by_cases e : b = n
    · subst e
      rw [esum_congr b (fun j hj => hk j (by omega)), hb]; omega
    · rw [esum_upd hb hk n (by omega), hk n (fun c => e c.symm)]; omega
theorem iZm (c a : Nat) : iZ (c : Int) * iZ (a : Int) = iZ ((c * a : Nat) : Int) := by rw [iZ_mul, Int.natCast_mul]
theorem iZa (c a : Nat) : iZ (c : Int) + iZ (a : Int) = iZ ((c + a : Nat) : Int) := by rw [iZ_add, Int.natCast_add]
theorem ten_a (a : Nat) : (10 : Int32) * iZ (a : Int) = iZ ((10 * a : Nat) : Int) := iZm 10 a
theorem elv_a (a : Nat) : (11 : Int32) * iZ (a : Int) = iZ ((11 * a : Nat) : Int) := iZm 11 a
theorem s_learn (a b : Nat) (x : Int32) (σ : St) (ha : a < 10) (hb : b < 10) : f_X1_learn (iZ (a : Int)) (iZ (b : Int)) x σ = if 0 ≤ (gI σ 16 (11 * a) + gI σ 16 (10 * a + b) - x).toInt then some (1, sI (sI σ 16 (11 * a) (gI σ 16 (11 * a) + gI σ 16 (10 * a + b) - x)) 16 (10 * a + b) x) else some (0, σ) := by
  unfold f_X1_learn f_X1_learn_25 f_X1_learn_55
  rw [ten_a, elv_a, iZa]
  simp only [gd_t (iZb (show 11 * a < 100 by omega) (by omega)), gd_t (iZb (show 10 * a + b < 100 by omega) (by omega)), iZc (show 11 * a < 2147483648 by omega), iZc (show 10 * a + b < 2147483648 by omega), leI, t_0]
abbrev okE (x1 x2 x3 : Int32) : Prop := (0 ≤ x1.toInt ∧ x1.toInt ≤ 9) ∧ (0 ≤ x2.toInt ∧ x2.toInt ≤ 9) ∧ ¬ x1 = x2 ∧ 0 ≤ x3.toInt ∧ x3.toInt ≤ 100
theorem c_echo (x1 x2 x3 : Int32) (σ : St) : f_X9_echo x1 x2 x3 σ = if okE x1 x2 x3 then (f_X1_learn x1 x2 x3 σ).bind fun p3 => gd (isbb (p3.1)) (some (p3.1, p3.2)) else some (0, σ) := by
  unfold f_X9_echo f_X9_echo_29
  simp only [s_isDigit, Option.bind_some, bZ_0, lI, leI, t_0, t_1, t_2, t_3, t_4, t_5, t_6, t_7, t_8, t_9, t_10, t_11, t_12, t_13, t_18, t_19, t_20, t_31, t_32, t_40, t_48, t_57, t_99, t_100, t_160, t_255, t_511, t_999, t_1000, t_9999, t_100000, t_999999999, t_2147483647, t_m1, t_m2, l_0, l_1, l_2, l_3, l_5, l_6, l_9, l_10, l_12, l_99, l_100, l_511, l_999, l_1000, l_9999, l_1000000, l_999999999, l_1000000000000, l_1000000000000000000, l_m1]
  by_cases q1 : 0 ≤ x1.toInt ∧ x1.toInt ≤ 9
  · rw [if_neg (not_not_intro q1)]
    by_cases q2 : 0 ≤ x2.toInt ∧ x2.toInt ≤ 9
    · rw [if_neg (not_not_intro q2)]
      by_cases q3 : x1 = x2
      · rw [if_pos q3, if_neg (fun c => c.2.2.1 q3)]
      · rw [if_neg q3]
        by_cases q4 : x3.toInt < 0
        · rw [if_pos q4, if_neg (fun c => by have := c.2.2.2.1; omega)]
        · rw [if_neg q4]
          by_cases q5 : x3.toInt ≤ 100
          · rw [if_pos q5, if_pos ⟨q1, q2, q3, by omega, q5⟩]
          · rw [if_neg q5, if_neg (fun c => q5 c.2.2.2.2)]
    · rw [if_pos q2, if_neg (fun c => q2 c.2.1)]
  · rw [if_pos q1, if_neg (fun c => q1 c.1)]
theorem d_echo_go (a b : Nat) (x : Int32) (σ : St) (ha : a < 10) (hb : b < 10) (hr : ∀ k, k < 10 → rg (gI σ 45 (10 * a + k)) 0 100) (z : Int) (hz : -100 ≤ z ∧ z ≤ 100) : ∀ m n j : Nat, ∀ y : Int32, j + m = 10 → m < n → y.toInt = z + esum (fun k => (gI σ 45 (10 * a + k)).toInt) j → f_X10_echo_61 n (iZ (a : Int)) (iZ (b : Int)) x y (iZ (j : Int)) σ = if z + esum (fun k => (gI σ 45 (10 * a + k)).toInt) 10 ≤ 100 then some (1, sI σ 45 (10 * a + b) x) else some (0, σ) := by
  intro m
  induction m with
  | zero =>
    intro n j y e hn hy
    cases n with
    | zero => omega
    | succ n =>
      have : j = 10 := by omega
      subst this
      rw [f_X10_echo_61, if_pos (by rw [leI, iZt (by omega), t_10]; omega), ten_a, iZa, gd_t (iZb (show 10 * a + b < 100 by omega) (by omega)), iZc (show 10 * a + b < 2147483648 by omega)]
      simp only [leI, t_100, hy]
  | succ m ih =>
    intro n j y e hn hy
    cases n with
    | zero => omega
    | succ n =>
      rw [f_X10_echo_61, if_neg (by rw [leI, iZt (by omega), t_10]; omega), ten_a, iZa, gd_t (iZb (show 10 * a + j < 100 by omega) (by omega)), iZc (show 10 * a + j < 2147483648 by omega)]
      unfold f_X10_echo_85
      rw [iZs]
      refine ih n (j + 1) _ (by omega) (by omega) ?_
      have hb1 := esum_bd (f := fun k => (gI σ 45 (10 * a + k)).toInt) j (fun k hk => hr k (by omega))
      obtain ⟨r1, r2⟩ := hr j (by omega)
      rw [tadd (by omega) (by omega), hy]
      show _ = z + (esum _ j + (gI σ 45 (10 * a + j)).toInt)
      omega
theorem d_echo (x1 x2 x3 : Int32) (σ : St) : f_X10_echo x1 x2 x3 σ = if okE x1 x2 x3 then gd (inb ((10 * x1) + x2) 100) (f_X10_echo_61 FU x1 x2 x3 (x3 - (gI σ 45 ((10 * x1) + x2).toNatClampNeg)) 0 σ) else some (0, σ) := by
  unfold f_X10_echo f_X10_echo_41 f_X10_echo_58
  simp only [s_in, Option.bind_some, bZ_0, t64, t_0, t_1, t_2, t_3, t_4, t_5, t_6, t_7, t_8, t_9, t_10, t_11, t_12, t_13, t_18, t_19, t_20, t_31, t_32, t_40, t_48, t_57, t_99, t_100, t_160, t_255, t_511, t_999, t_1000, t_9999, t_100000, t_999999999, t_2147483647, t_m1, t_m2, l_0, l_1, l_2, l_3, l_5, l_6, l_9, l_10, l_12, l_99, l_100, l_511, l_999, l_1000, l_9999, l_1000000, l_999999999, l_1000000000000, l_1000000000000000000, l_m1]
  by_cases q1 : 0 ≤ x1.toInt ∧ x1.toInt ≤ 9
  · rw [if_neg (not_not_intro q1)]
    by_cases q2 : 0 ≤ x2.toInt ∧ x2.toInt ≤ 9
    · rw [if_neg (not_not_intro q2)]
      by_cases q3 : x1 = x2
      · rw [if_pos q3, if_neg (fun c => c.2.2.1 q3)]
      · rw [if_neg q3]
        by_cases q4 : 0 ≤ x3.toInt ∧ x3.toInt ≤ 100
        · rw [if_neg (not_not_intro q4), if_pos ⟨q1, q2, q3, q4⟩]
        · rw [if_pos q4, if_neg (fun c => q4 c.2.2.2)]
    · rw [if_pos q2, if_neg (fun c => q2 c.2.1)]
  · rw [if_pos q1, if_neg (fun c => q1 c.1)]
theorem m_echo {σ : St} (x1 x2 x3 : Int32) (h : Rear σ) : ∃ r σ1 σ2, f_X9_echo x1 x2 x3 σ = some (r, σ1) ∧ f_X10_echo x1 x2 x3 σ1 = some (r, σ2) ∧ Rear σ2 := by
  rw [c_echo]
  simp only [d_echo]
  by_cases q : okE x1 x2 x3
  · simp only [if_pos q]
    obtain ⟨⟨a1, a2⟩, ⟨b1, b2⟩, ne, c1, c2⟩ := q
    have ea := iZof a1
    have eb := iZof b1
    rw [eI] at ne
    generalize hga : x1.toInt.toNat = a at ea
    generalize hgb : x2.toInt.toNat = b at eb
    have la : a < 10 := by omega
    have lb : b < 10 := by omega
    have lab : a ≠ b := by omega
    rw [ea, eb, s_learn a b x3 σ la lb]
    have h0 := h
    obtain ⟨h1, h2⟩ := h
    obtain ⟨r1, r2, r3, r4, r5⟩ := h1 a la
    have rb := r3 b lb (fun c => lab c.symm)
    obtain ⟨rb1, rb2⟩ := r1 b lb
    have bd := esum_bd (f := fun k => (gI σ 45 (10 * a + k)).toInt) 10 (fun k hk => r1 k hk)
    have ex : (gI σ 16 (11 * a) + gI σ 16 (10 * a + b) - x3).toInt = 100 - esum (fun k => (gI σ 45 (10 * a + k)).toInt) 10 + (gI σ 45 (10 * a + b)).toInt - x3.toInt := by
      have t1 : (gI σ 16 (11 * a) + gI σ 16 (10 * a + b)).toInt = (gI σ 16 (11 * a)).toInt + (gI σ 16 (10 * a + b)).toInt := tadd (by rw [rb]; omega) (by rw [rb]; omega)
      rw [tsub (by rw [t1, rb]; omega) (by rw [t1, rb]; omega), t1, rb, r4]
    have go : ∀ τ : St, (∀ j, gI τ 45 j = gI σ 45 j) → gd (inb ((10 * iZ (a : Int)) + iZ (b : Int)) 100) (f_X10_echo_61 FU (iZ (a : Int)) (iZ (b : Int)) x3 (x3 - (gI τ 45 ((10 * iZ (a : Int)) + iZ (b : Int)).toNatClampNeg)) 0 τ) = if x3.toInt - (gI σ 45 (10 * a + b)).toInt + esum (fun k => (gI σ 45 (10 * a + k)).toInt) 10 ≤ 100 then some (1, sI τ 45 (10 * a + b) x3) else some (0, τ) := by
      intro τ hτ
      rw [ten_a, iZa, gd_t (iZb (show 10 * a + b < 100 by omega) (by omega)), iZc (show 10 * a + b < 2147483648 by omega)]
      have := d_echo_go a b x3 τ la lb (fun k hk => by rw [hτ]; exact r1 k hk) (x3.toInt - (gI σ 45 (10 * a + b)).toInt) (by omega) 10 FU 0 (x3 - gI τ 45 (10 * a + b)) (by omega) (by unfold FU; omega) (by rw [hτ, tsub (by omega) (by omega)]; show _ = _ + 0; omega)
      simp only [hτ] at this ⊢
      exact this
    by_cases q : x3.toInt - (gI σ 45 (10 * a + b)).toInt + esum (fun k => (gI σ 45 (10 * a + k)).toInt) 10 ≤ 100
    · rw [if_pos (by rw [ex]; omega)]
      generalize hy : gI σ 16 (11 * a) + gI σ 16 (10 * a + b) - x3 = y at ex
      refine ⟨1, sI (sI σ 16 (11 * a) y) 16 (10 * a + b) x3, sI (sI (sI σ 16 (11 * a) y) 16 (10 * a + b) x3) 45 (10 * a + b) x3, rfl, ?_, ?_⟩
      · rw [go _ (fun j => by rw [g_sI_c (by omega), g_sI_c (by omega)]), if_pos q]
      · have e45 : ∀ j, gI (sI (sI (sI σ 16 (11 * a) y) 16 (10 * a + b) x3) 45 (10 * a + b) x3) 45 j = if j = 10 * a + b then x3 else gI σ 45 j := by
          intro j
          by_cases e : j = 10 * a + b
          · rw [if_pos e, e, g_sI_eq]
          · rw [if_neg e, g_sI_ne (by omega), g_sI_c (by omega), g_sI_c (by omega)]
        have e16 : ∀ j, gI (sI (sI (sI σ 16 (11 * a) y) 16 (10 * a + b) x3) 45 (10 * a + b) x3) 16 j = if j = 10 * a + b then x3 else if j = 11 * a then y else gI σ 16 j := by
          intro j
          rw [g_sI_c (by omega)]
          by_cases e : j = 10 * a + b
          · rw [if_pos e, e, g_sI_eq]
          · rw [if_neg e, g_sI_ne (by omega)]
            by_cases e2 : j = 11 * a
            · rw [if_pos e2, e2, g_sI_eq]
            · rw [if_neg e2, g_sI_ne (by omega)]
        refine ⟨fun d hd => ?_, h2⟩
        obtain ⟨s1, s2, s3, s4, s5⟩ := h1 d hd
        simp only [e45, e16]
        refine ⟨fun k hk => ?_, ?_, fun k hk hkd => ?_, ?_, ?_⟩
        · by_cases e : 10 * d + k = 10 * a + b
          · rw [if_pos e]; exact ⟨c1, c2⟩
          · rw [if_neg e]; exact s1 k hk
        · rw [if_neg (by omega)]; exact s2
        · by_cases e : 10 * d + k = 10 * a + b
          · rw [if_pos e, if_pos e]
          · rw [if_neg e, if_neg e, if_neg (by omega)]; exact s3 k hk hkd
        · rw [if_neg (show ¬ 11 * d = 10 * a + b by omega)]
          by_cases e : d = a
          · subst e
            have eu := esum_upd (f := fun k => (gI σ 45 (10 * d + k)).toInt) (g := fun k => (if 10 * d + k = 10 * d + b then x3 else gI σ 45 (10 * d + k)).toInt) (b := b) (y := x3.toInt) (by rw [if_pos rfl]) (fun k hk => by rw [if_neg (by omega)]) 10 lb
            rw [if_pos rfl, ex, eu]
            omega
          · rw [if_neg (by omega), s4]
            rw [esum_congr 10 (fun k hk => ?_)]
            rw [if_neg (by omega)]
        · rw [if_neg (show ¬ 11 * d = 10 * a + b by omega)]
          by_cases e : d = a
          · subst e
            rw [if_pos rfl, ex]; omega
          · rw [if_neg (by omega)]; exact s5
    · rw [if_neg (by rw [ex]; omega)]
      refine ⟨0, σ, σ, rfl, ?_, h0⟩
      rw [go σ (fun _ => rfl), if_neg q]
  · simp only [if_neg q]
    exact ⟨_, _, _, rfl, rfl, h⟩
