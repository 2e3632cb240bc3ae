/-! THE LAW'S LOOP -/
theorem k_1876 (sc : Nat × (Nat → Int32)) : GoesOn sc (g_L_1876 sc) := by
  intro k x4 X σ b1 b2 b3 b4 b5 R h72 hz
  exact ⟨X, σ, rfl, R, Room.rf X⟩
theorem law_go (sc : Nat × (Nat → Int32)) (hsc : sc.1 ≤ 3073) : ∀ (m k n : Nat) (X : En) (σ : St), sc.1 < k + 6 * m + 6 → 1 ≤ k → k ≤ 4000 → m < n → Rel X σ → 72 ≤ eZ X → eZ X + 4 * m ≤ 600000 → ∃ X2 σ2, g_L_33 sc n (iZ (k : Int)) X σ = some (1, X2, σ2) ∧ eZ X2 ≤ eZ X + 4 * m ∧ eY X2 ≤ eY X + 604 * m := by
  intro m
  induction m with
  | zero =>
    intro k n X σ hk h1 h4 hn R h72 hz
    cases n with
    | zero => omega
    | succ n =>
      rw [g_L_33, if_pos (by rw [ofN_iZ, show (6 : Int32) = iZ 6 from rfl, iZ_sub, lI, iZ_toInt (by omega) (by omega), iZt (by omega)]; omega)]
      exact ⟨X, σ, rfl, by omega, by omega⟩
  | succ m ih =>
    intro k n X σ hk h1 h4 hn R h72 hz
    cases n with
    | zero => omega
    | succ n =>
      by_cases ce : sc.1 < k + 6
      · rw [g_L_33, if_pos (by rw [ofN_iZ, show (6 : Int32) = iZ 6 from rfl, iZ_sub, lI, iZ_toInt (by omega) (by omega), iZt (by omega)]; omega)]
        exact ⟨X, σ, rfl, by omega, by omega⟩
      have ib : ∀ j : Nat, j ≤ 5 → inb (iZ (k : Int) + iZ (j : Int)) sc.1 = true := fun j hj => by
        rw [iZ_add, show (k : Int) + (j : Int) = ((k + j : Nat) : Int) from rfl]
        exact iZb (by omega) (by omega)
      have e6 : iZ (k : Int) + 6 = iZ ((k + 6 : Nat) : Int) := by rw [show (6 : Int32) = iZ 6 from rfl, iZ_add]; rfl
      have fin : ∀ G, GoesOn sc G → ∃ X2 σ2, G (g_L_33 sc n) (iZ (k : Int)) X σ = some (1, X2, σ2) ∧ eZ X2 ≤ eZ X + 4 * (m + 1) ∧ eY X2 ≤ eY X + 604 * (m + 1) := by
        intro G hG
        obtain ⟨Y, σ2, e, rel, r1, r2, r3, r4⟩ := hG (g_L_33 sc n) (iZ (k : Int)) X σ (ib 1 (by omega)) (ib 2 (by omega)) (ib 3 (by omega)) (ib 4 (by omega)) (ib 5 (by omega)) R h72 (by omega)
        obtain ⟨X3, σ3, f1, f2, f3⟩ := ih (k + 6) n Y σ2 (by omega) (by omega) (by omega) (by omega) rel (by omega) (by omega)
        refine ⟨X3, σ3, ?_, by omega, by omega⟩
        rw [e, e6]
        exact f1
      rw [g_L_33, if_neg (by rw [ofN_iZ, show (6 : Int32) = iZ 6 from rfl, iZ_sub, lI, iZ_toInt (by omega) (by omega), iZt (by omega)]; omega), gd_t (iZb (show k < sc.1 by omega) (by omega))]
      generalize (sc.2 (iZ (k : Int)).toNatClampNeg) &&& 63 = W
      by_cases c0 : W = 0
      · rw [if_pos c0]; exact fin _ (k_252 sc)
      rw [if_neg c0]
      by_cases c1 : W = 1
      · rw [if_pos c1]; exact fin _ (k_325 sc)
      rw [if_neg c1]
      by_cases c2 : W = 2
      · rw [if_pos c2]; exact fin _ (k_350 sc)
      rw [if_neg c2]
      by_cases c3 : W = 3
      · rw [if_pos c3]; exact fin _ (k_363 sc)
      rw [if_neg c3]
      by_cases c4 : W = 4
      · rw [if_pos c4]; exact fin _ (k_376 sc)
      rw [if_neg c4]
      by_cases c5 : W = 5
      · rw [if_pos c5]; exact fin _ (k_456 sc)
      rw [if_neg c5]
      by_cases c6 : W = 6
      · rw [if_pos c6]; exact fin _ (k_493 sc)
      rw [if_neg c6]
      by_cases c7 : W = 7
      · rw [if_pos c7]; exact fin _ (k_530 sc)
      rw [if_neg c7]
      by_cases c8 : W = 8
      · rw [if_pos c8]; exact fin _ (k_579 sc)
      rw [if_neg c8]
      by_cases c9 : W = 9
      · rw [if_pos c9]; exact fin _ (k_634 sc)
      rw [if_neg c9]
      by_cases c10 : W = 10
      · rw [if_pos c10]; exact fin _ (k_687 sc)
      rw [if_neg c10]
      by_cases c11 : W = 11
      · rw [if_pos c11]; exact fin _ (k_712 sc)
      rw [if_neg c11]
      by_cases c12 : W = 12
      · rw [if_pos c12]; exact fin _ (k_737 sc)
      rw [if_neg c12]
      by_cases c13 : W = 13
      · rw [if_pos c13]; exact fin _ (k_750 sc)
      rw [if_neg c13]
      by_cases c14 : W = 14
      · rw [if_pos c14]; exact fin _ (k_787 sc)
      rw [if_neg c14]
      by_cases c15 : W = 15
      · rw [if_pos c15]; exact fin _ (k_801 sc)
      rw [if_neg c15]
      by_cases c16 : W = 16
      · rw [if_pos c16]; exact fin _ (k_826 sc)
      rw [if_neg c16]
      by_cases c17 : W = 17
      · rw [if_pos c17]; exact fin _ (k_863 sc)
      rw [if_neg c17]
      by_cases c18 : W = 18
      · rw [if_pos c18]; exact fin _ (k_916 sc)
      rw [if_neg c18]
      by_cases c19 : W = 19
      · rw [if_pos c19]; exact fin _ (k_969 sc)
      rw [if_neg c19]
      by_cases c20 : W = 20
      · rw [if_pos c20]; exact fin _ (k_994 sc)
      rw [if_neg c20]
      by_cases c21 : W = 21
      · rw [if_pos c21]; exact fin _ (k_1031 sc)
      rw [if_neg c21]
      by_cases c22 : W = 22
      · rw [if_pos c22]; exact fin _ (k_1081 sc)
      rw [if_neg c22]
      by_cases c23 : W = 23
      · rw [if_pos c23]; exact fin _ (k_1130 sc)
      rw [if_neg c23]
      by_cases c24 : W = 24
      · rw [if_pos c24]; exact fin _ (k_1155 sc)
      rw [if_neg c24]
      by_cases c25 : W = 25
      · rw [if_pos c25]; exact fin _ (k_1180 sc)
      rw [if_neg c25]
      by_cases c26 : W = 26
      · rw [if_pos c26]; exact fin _ (k_1205 sc)
      rw [if_neg c26]
      by_cases c27 : W = 27
      · rw [if_pos c27]; exact fin _ (k_1218 sc)
      rw [if_neg c27]
      by_cases c28 : W = 28
      · rw [if_pos c28]; exact fin _ (k_1280 sc)
      rw [if_neg c28]
      by_cases c29 : W = 29
      · rw [if_pos c29]; exact fin _ (k_1317 sc)
      rw [if_neg c29]
      by_cases c30 : W = 30
      · rw [if_pos c30]; exact fin _ (k_1366 sc)
      rw [if_neg c30]
      by_cases c31 : W = 31
      · rw [if_pos c31]; exact fin _ (k_1404 sc)
      rw [if_neg c31]
      by_cases c32 : W = 32
      · rw [if_pos c32]; exact fin _ (k_1441 sc)
      rw [if_neg c32]
      by_cases c33 : W = 33
      · rw [if_pos c33]; exact fin _ (k_1466 sc)
      rw [if_neg c33]
      by_cases c34 : W = 34
      · rw [if_pos c34]; exact fin _ (k_1515 sc)
      rw [if_neg c34]
      by_cases c35 : W = 35
      · rw [if_pos c35]; exact fin _ (k_1552 sc)
      rw [if_neg c35]
      by_cases c36 : W = 36
      · rw [if_pos c36]; exact fin _ (k_1577 sc)
      rw [if_neg c36]
      by_cases c37 : W = 37
      · rw [if_pos c37]; exact fin _ (k_1614 sc)
      rw [if_neg c37]
      by_cases c38 : W = 38
      · rw [if_pos c38]; exact fin _ (k_1627 sc)
      rw [if_neg c38]
      by_cases c39 : W = 39
      · rw [if_pos c39]; exact fin _ (k_1652 sc)
      rw [if_neg c39]
      by_cases c40 : W = 40
      · rw [if_pos c40]; exact fin _ (k_1677 sc)
      rw [if_neg c40]
      by_cases c41 : W = 41
      · rw [if_pos c41]; exact fin _ (k_1726 sc)
      rw [if_neg c41]
      by_cases c42 : W = 42
      · rw [if_pos c42]; exact fin _ (k_1763 sc)
      rw [if_neg c42]
      by_cases c43 : W = 43
      · rw [if_pos c43]; exact fin _ (k_1788 sc)
      rw [if_neg c43]
      by_cases c44 : W = 44
      · rw [if_pos c44]; exact fin _ (k_1825 sc)
      rw [if_neg c44]
      by_cases c45 : W = 45
      · rw [if_pos c45]; exact fin _ (k_1838 sc)
      rw [if_neg c45]
      by_cases c46 : W = 46
      · rw [if_pos c46]; exact fin _ (k_1851 sc)
      rw [if_neg c46]
      exact fin _ (k_1876 sc)
