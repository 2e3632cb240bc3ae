theorem d_conf_in (σ : St) (h : Rear σ) (r : Rhar σ) (H i : Nat) (hH : H ≤ 8) (hi : i < H) (hh : (gI σ 38 33).toInt = H) (K : Int32 → Int32 → St → Option (Int32 × St)) : ∀ m n j : Nat, ∀ x : Int32, j + m = i → m < n → f_X10_confused_14 K n x (iZ (i : Int)) (iZ (j : Int)) σ = K (x + s32 (confI σ i) m j) (iZ (i : Int) + 1) σ := by
  obtain ⟨r1, r2, r4, r5⟩ := r
  have e9 : 10 ^ 9 = 1000000000 := by decide
  have e13 : 10 ^ 13 = 10000000000000 := by decide
  have e18 : 10 ^ 18 = 1000000000000000000 := by decide
  have en : ∀ k, gI σ 20 k = iZ (nv σ k : Int) ∧ (gI σ 20 k).toInt64 = jZ (nv σ k : Int) ∧ nv σ k < 10 ^ 9 := by
    intro k
    obtain ⟨v1, v2⟩ := r5 k
    exact ⟨iZof v1, by rw [x64, Int.toNat_of_nonneg v1], by show (gI σ 20 k).toInt.toNat < _; omega⟩
  intro m
  induction m with
  | zero =>
    intro n j x e hn
    cases n with
    | zero => omega
    | succ n =>
      rw [f_X10_confused_14, if_pos (by rw [leI, iZt (by omega), iZt (by omega)]; omega)]
      show _ = K (x + 0) _ σ
      rw [Int32.add_zero]
  | succ m ih =>
    intro n j x e hn
    cases n with
    | zero => omega
    | succ n =>
      obtain ⟨a1, a2, a3⟩ := en i
      obtain ⟨b1, b2, b3⟩ := en j
      have l1 : f_X10_heardAs (gI σ 20 i) (gI σ 20 j).toInt64 σ = some (heV σ (nv σ i) (nv σ j), σ) := by
        rw [b2]; refine Eq.trans (congrArg (fun z => f_X10_heardAs z _ σ) a1) ?_
        exact s_he σ (nv σ i) (nv σ j) a3 (by omega) h
      have l2 : f_X10_heardAs (gI σ 20 j) (gI σ 20 i).toInt64 σ = some (heV σ (nv σ j) (nv σ i), σ) := by
        rw [a2]; refine Eq.trans (congrArg (fun z => f_X10_heardAs z _ σ) b1) ?_
        exact s_he σ (nv σ j) (nv σ i) b3 (by omega) h
      have p1 := lk_pos h (nv σ i) (nv σ j) ((nd_le (by omega)).mpr a3)
      have p2 := lk_pos h (nv σ j) (nv σ i) ((nd_le (by omega)).mpr b3)
      rw [f_X10_confused_14, if_neg (by rw [leI, iZt (by omega), iZt (by omega)]; omega), gd_t (iZb (show i < 8 by omega) (by omega)), gd_t (iZb (show j < 8 by omega) (by omega)), iZc (show i < 2147483648 by omega), iZc (show j < 2147483648 by omega), r4, l1]
      simp only [Option.bind_some]
      rw [gd_t (iZb (show j < 8 by omega) (by omega)), gd_t (iZb (show i < 8 by omega) (by omega)), r4, l2]
      simp only [Option.bind_some, le_not_pos, ← p1, ← p2]
      unfold f_X10_confused_64 f_X10_confused_69 f_X10_confused_71
      rw [iZs, ih n (j + 1) (x + 1) (by omega) (by omega), ih n (j + 1) (x + 0) (by omega) (by omega)]
      show _ = K (x + (confI σ i j + s32 (confI σ i) m (j + 1))) _ σ
      rw [← Int32.add_assoc]
      by_cases q1 : 0 < lg_cmp (lkV σ (nv σ i) (nv σ j)) 0
      · rw [if_pos q1]
        have e1 : confI σ i j = 1 := if_pos (Or.inl q1)
        rw [e1]
      · rw [if_neg q1]
        by_cases q2 : 0 < lg_cmp (lkV σ (nv σ j) (nv σ i)) 0
        · rw [if_neg (not_not_intro q2)]
          have e1 : confI σ i j = 1 := if_pos (Or.inr q2)
          rw [e1]
        · rw [if_pos q2]
          have e1 : confI σ i j = 0 := if_neg (fun c => c.elim q1 q2)
          rw [e1]
theorem d_conf_go (σ : St) (h : Rear σ) (r : Rhar σ) (H : Nat) (hH : H ≤ 8) (hh : (gI σ 38 33).toInt = H) : ∀ m n i : Nat, ∀ x : Int32, i + m = H → m < n → f_X10_confused_4 n x (iZ (i : Int)) σ = some (x + sumT (confI σ) m i, σ) := by
  intro m
  induction m with
  | zero =>
    intro n i x e hn
    cases n with
    | zero => omega
    | succ n =>
      rw [f_X10_confused_4, if_pos (by rw [leI, hh, iZt (by omega)]; omega)]
      show _ = some (x + 0, σ)
      rw [Int32.add_zero]
  | succ m ih =>
    intro n i x e hn
    cases n with
    | zero => omega
    | succ n =>
      have hd := d_conf_in σ h r H i hH (by omega) hh (f_X10_confused_4 n) i FU 0 x (by omega) (by unfold FU; omega)
      rw [f_X10_confused_4, if_neg (by rw [leI, hh, iZt (by omega)]; omega)]
      refine Eq.trans hd ?_
      rw [iZs, ih n (i + 1) _ (by omega) (by omega), Int32.add_assoc]
      rfl
theorem m_confused {σ : St} (h : Rear σ) (r : Rhar σ) : ∃ a, f_X9_confused σ = some (a, σ) ∧ f_X10_confused σ = some (a, σ) := by
  obtain ⟨r2, r3⟩ := r.2.1
  have hH : (gI σ 19 1).toInt = ((gI σ 19 1).toInt.toNat : Int) := by omega
  have c := c_conf_go σ r (gI σ 19 1).toInt.toNat (by omega) hH (gI σ 19 1).toInt.toNat FU 0 0 (by omega) (by unfold FU; omega)
  have d := d_conf_go σ h r (gI σ 19 1).toInt.toNat (by omega) (by rw [r.1]; exact hH) (gI σ 19 1).toInt.toNat FU 0 0 (by omega) (by unfold FU; omega)
  rw [← sumUT _ (confI_s σ)] at d
  exact ⟨_, c, d⟩
