/-! DOUBLES, on both sides -/
theorem c_twX {σ : St} {P : Nat} {w : Int32} (h : CI σ P w) (hs : P + P < 10 ^ 9) : ∃ σ', f_X7_twice 5 σ = some σ' ∧ CI σ' (P + P) (w + tws P 9 P) := by
  obtain ⟨V, r, ok, hV, hw⟩ := h
  obtain ⟨σ', e1, r1⟩ := c_twice (by omega) r
  have em : P % 10 ^ 9 = P := Nat.mod_eq_of_lt (by omega)
  obtain ⟨a1, a2, a3⟩ := c_twX_go (P := P) 9 P w V (by omega) ok (by omega) (by omega) hV hV hw
  rw [em] at a2
  exact ⟨σ', e1, _, r1, a1, a2, a3⟩
theorem m_twX_go {P : Nat} (hP : P < 10 ^ 9) : ∀ k n Q : Nat, ∀ w c : Int32, ∀ τ : St, k ≤ 9 → k < n → Q < 10 ^ 9 → Q + P % 10 ^ k < 10 ^ 9 → MI τ Q w c → ∃ τ', f_X10_twice_8 n (jZ (P : Int)) (iZ ((k : Int) - 1)) τ = some τ' ∧ MI τ' (Q + P % 10 ^ k) (w + tws P k Q) (c + 1) := by
  have e9 : 10 ^ 9 = 1000000000 := by decide
  have e18 : 10 ^ 18 = 1000000000000000000 := by decide
  intro k
  induction k with
  | zero =>
    intro n Q w c τ _ hn hQ hs h
    cases n with
    | zero => omega
    | succ n =>
      rw [f_X10_twice_8, if_pos iZ_m1n]
      obtain ⟨h1, h2, h3⟩ := h
      refine ⟨_, rfl, ?_, ?_, ?_⟩
      · rw [gJ_sI, Nat.pow_zero, Nat.mod_one]; exact h1
      · rw [g_sI_ne (by omega), h2]
        show w = w + 0
        rw [Int32.add_zero]
      · rw [g_sI_eq, h3]
  | succ k ih =>
    intro n Q w c τ hk hn hQ hs h
    cases n with
    | zero => omega
    | succ n =>
      obtain ⟨h1, h2, h3⟩ := h
      have hd : dgN P k < 10 := Nat.mod_lt _ (by omega)
      have hm := mod_succ P k
      rw [Nat.mul_comm] at hm
      have hn9 : dgN P k * 10 ^ k < 10 ^ 9 := by omega
      have s := s_walks (R := 9) (by omega) τ Q (dgN P k * 10 ^ k) (by omega) (by omega) (V0 Q) (okV0 Q) rfl (fun _ _ => rfl)
      have em : (iZ (dgN P k : Int)).toInt64 * jZ (10 ^ k) = jZ ((dgN P k * 10 ^ k : Nat) : Int) := by
        rw [iZ_l (by omega) (by omega), jpow, jZ_mul, Int.natCast_mul]
      have s' : f_X10_walksOf (gJ τ 38 35) ((iZ ((P / 10 ^ k % 10 : Nat) : Int)).toInt64 * jZ (10 ^ k)) 9 τ = some (wk Q (dgN P k * 10 ^ k), τ) := by
        rw [h1]
        refine Eq.trans ?_ s
        exact congrArg (fun z => f_X10_walksOf (jZ (Q : Int)) z 9 τ) em
      rw [iZq, f_X10_twice_8, if_neg (by rw [lI, iZt (by omega), t_0]; omega), bnd (s_digitOf10 τ P k (by omega) (by omega)), bnd (s_ten τ k (by omega)), bnd s']
      generalize hτ1 : sI τ 38 36 (gI τ 38 36 + wk Q (dgN P k * 10 ^ k)) = τ1
      have g1 : gJ τ1 38 35 = jZ (Q : Int) := by rw [← hτ1]; exact h1
      have g2 : gI τ1 38 36 = w + wk Q (dgN P k * 10 ^ k) := by rw [← hτ1, g_sI_eq, h2]
      have g3 : gI τ1 38 37 = c := by rw [← hτ1, g_sI_ne (by omega)]; exact h3
      rw [bnd (s_digitOf10 τ1 P k (by omega) (by omega)), bnd (s_ten τ1 k (by omega))]
      unfold f_X10_twice_61
      show ∃ τ', f_X10_twice_8 n (jZ (P : Int)) (iZ (k : Int) + (-1)) (sJ τ1 38 35 (gJ τ1 38 35 + (iZ (dgN P k : Int)).toInt64 * jZ (10 ^ k))) = some τ' ∧ _
      rw [em, g1, jZ_add, iZm1]
      obtain ⟨τ', a1, a2⟩ := ih n (Q + dgN P k * 10 ^ k) (w + wk Q (dgN P k * 10 ^ k)) c (sJ τ1 38 35 (jZ ((Q : Int) + ((dgN P k * 10 ^ k : Nat) : Int)))) (by omega) (by omega) (by omega) (by omega) ⟨by simp [gI_sI, gI_sJ, gI_sR, gJ_sI, gJ_sJ, gJ_sR, gR_sI, gR_sJ, gR_sR], by rw [gI_sJ]; exact g2, by rw [gI_sJ]; exact g3⟩
      refine ⟨τ', a1, ?_⟩
      have ea : Q + dgN P k * 10 ^ k + P % 10 ^ k = Q + P % 10 ^ (k + 1) := by omega
      rw [ea, Int32.add_assoc] at a2
      exact a2
theorem m_twX {τ : St} {P : Nat} {w c : Int32} (h : MI τ P w c) (hs : P + P < 10 ^ 9) : ∃ τ', f_X10_twice τ = some τ' ∧ MI τ' (P + P) (w + tws P 9 P) (c + 1) := by
  unfold f_X10_twice f_X10_twice_5
  have em : P % 10 ^ 9 = P := Nat.mod_eq_of_lt (by omega)
  have := m_twX_go (P := P) (by omega) 9 FU P w c τ (by omega) (by unfold FU; omega) (by omega) (by omega) h
  rw [em] at this
  rw [h.1]
  exact this
