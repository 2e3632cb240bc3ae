/-! RIVAL -/
def wyW (a b : Nat) (w : Int32) : Int32 := resW tw9 wk (wayL a b w) 0 0
theorem c_rstep {a b : Nat} (ha : a ≤ 9999) (hb : b ≤ 9999) (n : Nat) (x3 x4 x5 : Int32) (h5 : ¬ (2 : Int32) < x5) (σ : St) : ∃ σ', f_X9_rival_26 (n + 1) (iZ (a : Int)) (iZ (b : Int)) x3 x4 x5 σ = (if x4 ≤ wyW a b x5 then f_X9_rival_26 n (iZ (a : Int)) (iZ (b : Int)) x3 x4 (x5 + 1) σ' else f_X9_rival_26 n (iZ (a : Int)) (iZ (b : Int)) x5 (wyW a b x5) (x5 + 1) σ') := by
  obtain ⟨σ1, e1, V, r1, ok1, d1, w1⟩ := c_multiply ha hb x5 σ
  refine ⟨σ1, ?_⟩
  have e7 : gI σ1 5 7 = wyW a b x5 := by rw [r1.2.2.1]; exact w1
  rw [f_X9_rival_26, if_neg h5, bnd e1]
  unfold f_X9_rival_65 f_X9_rival_62 f_X9_rival_65
  show (if x4 ≤ gI σ1 5 7 then _ else f_X9_rival_26 n (iZ (a : Int)) (iZ (b : Int)) x5 (gI σ1 5 7) (x5 + 1) σ1) = _
  rw [e7]
theorem m_rstep {a b : Nat} (ha : a ≤ 9999) (hb : b ≤ 9999) (n : Nat) (x3 x4 x5 : Int32) (h5 : ¬ (3 : Int32) ≤ x5) (σ : St) : ∃ σ', f_X10_rival_34 (n + 1) (iZ (a : Int)) (iZ (b : Int)) x3 x4 x5 σ = (if x3 = -1 then f_X10_rival_34 n (iZ (a : Int)) (iZ (b : Int)) x5 (wyW a b x5) (x5 + 1) σ' else if x4 ≤ wyW a b x5 then f_X10_rival_34 n (iZ (a : Int)) (iZ (b : Int)) x3 x4 (x5 + 1) σ' else f_X10_rival_34 n (iZ (a : Int)) (iZ (b : Int)) x5 (wyW a b x5) (x5 + 1) σ') := by
  obtain ⟨σ1, e1, m1, m2, m3⟩ := m_multiply ha hb x5 σ
  refine ⟨σ1, ?_⟩
  have e7 : gI σ1 38 36 = wyW a b x5 := m2
  rw [f_X10_rival_34, if_neg h5, bnd e1]
  unfold f_X10_rival_62 f_X10_rival_71
  rw [e7]
theorem c_rend (n : Nat) (x1 x2 x3 x4 : Int32) (σ : St) : f_X9_rival_26 (n + 1) x1 x2 x3 x4 3 σ = some (x3, σ) := by
  rw [f_X9_rival_26, if_pos (by rw [lI, t_2, t_3]; omega)]
theorem m_rend (n : Nat) (x1 x2 x3 x4 : Int32) (σ : St) : f_X10_rival_34 (n + 1) x1 x2 x3 x4 3 σ = some (x3, σ) := by
  rw [f_X10_rival_34, if_pos (by rw [leI]; exact Int.le_refl _)]
theorem rv_one : (0 : Int32) + 1 = 1 := rfl
theorem rv_two : (1 : Int32) + 1 = 2 := rfl
theorem rv_thr : (2 : Int32) + 1 = 3 := rfl
def rvR (w0 w1 w2 : Int32) : Int32 := if w0 ≤ w1 then (if w0 ≤ w2 then 0 else 2) else (if w1 ≤ w2 then 1 else 2)
theorem c_rival {a b : Nat} (ha : a ≤ 9999) (hb : b ≤ 9999) (n : Nat) (σ : St) : ∃ σ', f_X9_rival_26 (n + 1 + 1 + 1 + 1) (iZ (a : Int)) (iZ (b : Int)) 0 2147483647 0 σ = some (rvR (wyW a b 0) (wyW a b 1) (wyW a b 2), σ') := by
  obtain ⟨s1, e1⟩ := c_rstep ha hb (n + 1 + 1 + 1) 0 2147483647 0 (by rw [lI, t_2, t_0]; omega) σ
  have h0 : f_X9_rival_26 (n + 1 + 1 + 1 + 1) (iZ (a : Int)) (iZ (b : Int)) 0 2147483647 0 σ = f_X9_rival_26 (n + 1 + 1 + 1) (iZ (a : Int)) (iZ (b : Int)) 0 (wyW a b 0) 1 s1 := by
    rw [e1, rv_one]
    by_cases c : (2147483647 : Int32) ≤ wyW a b 0
    · rw [if_pos c]
      have hi := i_hi (wyW a b 0)
      rw [leI, t_2147483647] at c
      have : wyW a b 0 = 2147483647 := by rw [eI, t_2147483647]; omega
      rw [this]
    · rw [if_neg c]
  rw [h0]
  obtain ⟨s2, e2⟩ := c_rstep ha hb (n + 1 + 1) 0 (wyW a b 0) 1 (by rw [lI, t_2, t_1]; omega) s1
  rw [e2, rv_two]
  unfold rvR
  by_cases c1 : wyW a b 0 ≤ wyW a b 1
  · rw [if_pos c1, if_pos c1]
    obtain ⟨s3, e3⟩ := c_rstep ha hb (n + 1) 0 (wyW a b 0) 2 (by rw [lI]; omega) s2
    refine ⟨s3, ?_⟩
    rw [e3, rv_thr, c_rend, c_rend]
    split <;> rfl
  · rw [if_neg c1, if_neg c1]
    obtain ⟨s3, e3⟩ := c_rstep ha hb (n + 1) 1 (wyW a b 1) 2 (by rw [lI]; omega) s2
    refine ⟨s3, ?_⟩
    rw [e3, rv_thr, c_rend, c_rend]
    split <;> rfl
theorem mm_rival {a b : Nat} (ha : a ≤ 9999) (hb : b ≤ 9999) (n : Nat) (σ : St) : ∃ σ', f_X10_rival_34 (n + 1 + 1 + 1 + 1) (iZ (a : Int)) (iZ (b : Int)) (-1) 0 0 σ = some (rvR (wyW a b 0) (wyW a b 1) (wyW a b 2), σ') := by
  obtain ⟨s1, e1⟩ := m_rstep ha hb (n + 1 + 1 + 1) (-1) 0 0 (by rw [leI, t_3, t_0]; omega) σ
  rw [e1, rv_one, if_pos rfl]
  obtain ⟨s2, e2⟩ := m_rstep ha hb (n + 1 + 1) 0 (wyW a b 0) 1 (by rw [leI, t_3, t_1]; omega) s1
  rw [e2, rv_two, if_neg (by rw [eI, t_0, t_m1]; omega)]
  unfold rvR
  by_cases c1 : wyW a b 0 ≤ wyW a b 1
  · rw [if_pos c1, if_pos c1]
    obtain ⟨s3, e3⟩ := m_rstep ha hb (n + 1) 0 (wyW a b 0) 2 (by rw [leI, t_3, t_2]; omega) s2
    refine ⟨s3, ?_⟩
    rw [e3, rv_thr, if_neg (by rw [eI, t_0, t_m1]; omega), m_rend, m_rend]
    split <;> rfl
  · rw [if_neg c1, if_neg c1]
    obtain ⟨s3, e3⟩ := m_rstep ha hb (n + 1) 1 (wyW a b 1) 2 (by rw [leI, t_3, t_2]; omega) s2
    refine ⟨s3, ?_⟩
    rw [e3, rv_thr, if_neg (by rw [eI, t_1, t_m1]; omega), m_rend, m_rend]
    split <;> rfl
theorem fu4 : FU = 999996 + 1 + 1 + 1 + 1 := rfl
theorem m_rival {σ : St} (x y : Int32) : ∃ r σ1 σ2, f_X9_rival x y σ = some (r, σ1) ∧ f_X10_rival x y σ1 = some (r, σ2) := by
  unfold f_X9_rival f_X9_rival_14 f_X10_rival f_X10_rival_24
  simp only [s_isFactor, s_in, Option.bind_some, bZ_0, t64, l_0, l_9999]
  by_cases qx : 0 ≤ x.toInt ∧ x.toInt ≤ 9999
  · simp only [if_neg (not_not_intro qx)]
    by_cases qy : 0 ≤ y.toInt ∧ y.toInt ≤ 9999
    · simp only [if_neg (not_not_intro qy)]
      have ex := iZof qx.1
      have ey := iZof qy.1
      have ha : x.toInt.toNat ≤ 9999 := by omega
      have hb : y.toInt.toNat ≤ 9999 := by omega
      generalize x.toInt.toNat = a at ex ha
      generalize y.toInt.toNat = b at ey hb
      rw [ex, ey, fu4]
      obtain ⟨σ1, e1⟩ := c_rival ha hb 999996 σ
      obtain ⟨σ2, e2⟩ := mm_rival ha hb 999996 σ1
      exact ⟨_, σ1, σ2, e1, e2⟩
    · exact ⟨-1, σ, σ, by rw [if_pos qy], by rw [if_pos qy]⟩
  · exact ⟨-1, σ, σ, by rw [if_pos qx], by rw [if_pos qx]⟩
